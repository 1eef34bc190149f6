theorem dX0_init_0 : decode cX0_init 0 = .ok (.aload_n 0, 1) := by decide +kernel
theorem dX0_init_1 : decode cX0_init 1 = .ok (.invokespecial 3, 3) := by decide +kernel
theorem dX0_init_4 : decode cX0_init 4 = .ok (.aload_n 0, 1) := by decide +kernel
theorem dX0_init_5 : decode cX0_init 5 = .ok (.bipush 10, 2) := by decide +kernel
theorem dX0_init_7 : decode cX0_init 7 = .ok (.newarray .int, 2) := by decide +kernel
theorem dX0_init_9 : decode cX0_init 9 = .ok (.putfield 9, 3) := by decide +kernel
theorem dX0_init_12 : decode cX0_init 12 = .ok (.aload_n 0, 1) := by decide +kernel
theorem dX0_init_13 : decode cX0_init 13 = .ok (.iload_n 1, 1) := by decide +kernel
theorem dX0_init_14 : decode cX0_init 14 = .ok (.putfield 15, 3) := by decide +kernel
theorem dX0_init_17 : decode cX0_init 17 = .ok (.aload_n 0, 1) := by decide +kernel
theorem dX0_init_18 : decode cX0_init 18 = .ok (.iload_n 2, 1) := by decide +kernel
theorem dX0_init_19 : decode cX0_init 19 = .ok (.putfield 19, 3) := by decide +kernel
theorem dX0_init_22 : decode cX0_init 22 = .ok (.return_, 1) := by decide +kernel
theorem dX0_addFlaw_0 : decode cX0_addFlaw 0 = .ok (.aload_n 0, 1) := by decide +kernel
theorem dX0_addFlaw_1 : decode cX0_addFlaw 1 = .ok (.getfield 22, 3) := by decide +kernel
theorem dX0_addFlaw_4 : decode cX0_addFlaw 4 = .ok (.aload_n 0, 1) := by decide +kernel
theorem dX0_addFlaw_5 : decode cX0_addFlaw 5 = .ok (.getfield 9, 3) := by decide +kernel
theorem dX0_addFlaw_8 : decode cX0_addFlaw 8 = .ok (.arraylength, 1) := by decide +kernel
theorem dX0_addFlaw_9 : decode cX0_addFlaw 9 = .ok (.if_icmp .ge 23, 3) := by decide +kernel
theorem dX0_addFlaw_12 : decode cX0_addFlaw 12 = .ok (.aload_n 0, 1) := by decide +kernel
theorem dX0_addFlaw_13 : decode cX0_addFlaw 13 = .ok (.getfield 9, 3) := by decide +kernel
theorem dX0_addFlaw_16 : decode cX0_addFlaw 16 = .ok (.aload_n 0, 1) := by decide +kernel
theorem dX0_addFlaw_17 : decode cX0_addFlaw 17 = .ok (.getfield 22, 3) := by decide +kernel
theorem dX0_addFlaw_20 : decode cX0_addFlaw 20 = .ok (.iload_n 1, 1) := by decide +kernel
theorem dX0_addFlaw_21 : decode cX0_addFlaw 21 = .ok (.iastore, 1) := by decide +kernel
theorem dX0_addFlaw_22 : decode cX0_addFlaw 22 = .ok (.aload_n 0, 1) := by decide +kernel
theorem dX0_addFlaw_23 : decode cX0_addFlaw 23 = .ok (.dup, 1) := by decide +kernel
theorem dX0_addFlaw_24 : decode cX0_addFlaw 24 = .ok (.getfield 22, 3) := by decide +kernel
theorem dX0_addFlaw_27 : decode cX0_addFlaw 27 = .ok (.iconst 1, 1) := by decide +kernel
theorem dX0_addFlaw_28 : decode cX0_addFlaw 28 = .ok (.iadd, 1) := by decide +kernel
theorem dX0_addFlaw_29 : decode cX0_addFlaw 29 = .ok (.putfield 22, 3) := by decide +kernel
theorem dX0_addFlaw_32 : decode cX0_addFlaw 32 = .ok (.aload_n 0, 1) := by decide +kernel
theorem dX0_addFlaw_33 : decode cX0_addFlaw 33 = .ok (.getfield 22, 3) := by decide +kernel
theorem dX0_addFlaw_36 : decode cX0_addFlaw 36 = .ok (.ireturn, 1) := by decide +kernel
theorem dX0_hasFlaw_0 : decode cX0_hasFlaw 0 = .ok (.aload_n 0, 1) := by decide +kernel
theorem dX0_hasFlaw_1 : decode cX0_hasFlaw 1 = .ok (.iload_n 1, 1) := by decide +kernel
theorem dX0_hasFlaw_2 : decode cX0_hasFlaw 2 = .ok (.iload_n 2, 1) := by decide +kernel
theorem dX0_hasFlaw_3 : decode cX0_hasFlaw 3 = .ok (.invokevirtual 25, 3) := by decide +kernel
theorem dX0_hasFlaw_6 : decode cX0_hasFlaw 6 = .ok (.ifCond .lt 7, 3) := by decide +kernel
theorem dX0_hasFlaw_9 : decode cX0_hasFlaw 9 = .ok (.iconst 1, 1) := by decide +kernel
theorem dX0_hasFlaw_10 : decode cX0_hasFlaw 10 = .ok (.goto 4, 3) := by decide +kernel
theorem dX0_hasFlaw_13 : decode cX0_hasFlaw 13 = .ok (.iconst 0, 1) := by decide +kernel
theorem dX0_hasFlaw_14 : decode cX0_hasFlaw 14 = .ok (.ireturn, 1) := by decide +kernel
theorem dX0_lastFlaw_0 : decode cX0_lastFlaw 0 = .ok (.iconst (-1), 1) := by decide +kernel
theorem dX0_lastFlaw_1 : decode cX0_lastFlaw 1 = .ok (.istore_n 3, 1) := by decide +kernel
theorem dX0_lastFlaw_2 : decode cX0_lastFlaw 2 = .ok (.iconst 0, 1) := by decide +kernel
theorem dX0_lastFlaw_3 : decode cX0_lastFlaw 3 = .ok (.istore 4, 2) := by decide +kernel
theorem dX0_lastFlaw_5 : decode cX0_lastFlaw 5 = .ok (.iload 4, 2) := by decide +kernel
theorem dX0_lastFlaw_7 : decode cX0_lastFlaw 7 = .ok (.aload_n 0, 1) := by decide +kernel
theorem dX0_lastFlaw_8 : decode cX0_lastFlaw 8 = .ok (.getfield 22, 3) := by decide +kernel
theorem dX0_lastFlaw_11 : decode cX0_lastFlaw 11 = .ok (.if_icmp .ge 53, 3) := by decide +kernel
theorem dX0_lastFlaw_14 : decode cX0_lastFlaw 14 = .ok (.iload 4, 2) := by decide +kernel
theorem dX0_lastFlaw_16 : decode cX0_lastFlaw 16 = .ok (.aload_n 0, 1) := by decide +kernel
theorem dX0_lastFlaw_17 : decode cX0_lastFlaw 17 = .ok (.getfield 9, 3) := by decide +kernel
theorem dX0_lastFlaw_20 : decode cX0_lastFlaw 20 = .ok (.arraylength, 1) := by decide +kernel
theorem dX0_lastFlaw_21 : decode cX0_lastFlaw 21 = .ok (.if_icmp .ge 43, 3) := by decide +kernel
theorem dX0_lastFlaw_24 : decode cX0_lastFlaw 24 = .ok (.aload_n 0, 1) := by decide +kernel
theorem dX0_lastFlaw_25 : decode cX0_lastFlaw 25 = .ok (.getfield 9, 3) := by decide +kernel
theorem dX0_lastFlaw_28 : decode cX0_lastFlaw 28 = .ok (.iload 4, 2) := by decide +kernel
theorem dX0_lastFlaw_30 : decode cX0_lastFlaw 30 = .ok (.iaload, 1) := by decide +kernel
theorem dX0_lastFlaw_31 : decode cX0_lastFlaw 31 = .ok (.iload_n 1, 1) := by decide +kernel
theorem dX0_lastFlaw_32 : decode cX0_lastFlaw 32 = .ok (.if_icmp .lt 26, 3) := by decide +kernel
theorem dX0_lastFlaw_35 : decode cX0_lastFlaw 35 = .ok (.aload_n 0, 1) := by decide +kernel
theorem dX0_lastFlaw_36 : decode cX0_lastFlaw 36 = .ok (.getfield 9, 3) := by decide +kernel
theorem dX0_lastFlaw_39 : decode cX0_lastFlaw 39 = .ok (.iload 4, 2) := by decide +kernel
theorem dX0_lastFlaw_41 : decode cX0_lastFlaw 41 = .ok (.iaload, 1) := by decide +kernel
theorem dX0_lastFlaw_42 : decode cX0_lastFlaw 42 = .ok (.iload_n 2, 1) := by decide +kernel
theorem dX0_lastFlaw_43 : decode cX0_lastFlaw 43 = .ok (.if_icmp .ge 15, 3) := by decide +kernel
theorem dX0_lastFlaw_46 : decode cX0_lastFlaw 46 = .ok (.iload_n 3, 1) := by decide +kernel
theorem dX0_lastFlaw_47 : decode cX0_lastFlaw 47 = .ok (.aload_n 0, 1) := by decide +kernel
theorem dX0_lastFlaw_48 : decode cX0_lastFlaw 48 = .ok (.getfield 9, 3) := by decide +kernel
theorem dX0_lastFlaw_51 : decode cX0_lastFlaw 51 = .ok (.iload 4, 2) := by decide +kernel
theorem dX0_lastFlaw_53 : decode cX0_lastFlaw 53 = .ok (.iaload, 1) := by decide +kernel
theorem dX0_lastFlaw_54 : decode cX0_lastFlaw 54 = .ok (.invokestatic 29, 3) := by decide +kernel
theorem dX0_lastFlaw_57 : decode cX0_lastFlaw 57 = .ok (.istore_n 3, 1) := by decide +kernel
theorem dX0_lastFlaw_58 : decode cX0_lastFlaw 58 = .ok (.iinc 4 1, 3) := by decide +kernel
theorem dX0_lastFlaw_61 : decode cX0_lastFlaw 61 = .ok (.goto (-56), 3) := by decide +kernel
theorem dX0_lastFlaw_64 : decode cX0_lastFlaw 64 = .ok (.iload_n 3, 1) := by decide +kernel
theorem dX0_lastFlaw_65 : decode cX0_lastFlaw 65 = .ok (.ireturn, 1) := by decide +kernel
theorem dX0_nextMatch_0 : decode cX0_nextMatch 0 = .ok (.aload_n 0, 1) := by decide +kernel
theorem dX0_nextMatch_1 : decode cX0_nextMatch 1 = .ok (.getfield 19, 3) := by decide +kernel
theorem dX0_nextMatch_4 : decode cX0_nextMatch 4 = .ok (.iconst 1, 1) := by decide +kernel
theorem dX0_nextMatch_5 : decode cX0_nextMatch 5 = .ok (.if_icmp .ge 7, 3) := by decide +kernel
theorem dX0_nextMatch_8 : decode cX0_nextMatch 8 = .ok (.iload_n 1, 1) := by decide +kernel
theorem dX0_nextMatch_9 : decode cX0_nextMatch 9 = .ok (.goto 15, 3) := by decide +kernel
theorem dX0_nextMatch_12 : decode cX0_nextMatch 12 = .ok (.iload_n 1, 1) := by decide +kernel
theorem dX0_nextMatch_13 : decode cX0_nextMatch 13 = .ok (.iload_n 2, 1) := by decide +kernel
theorem dX0_nextMatch_14 : decode cX0_nextMatch 14 = .ok (.iload_n 1, 1) := by decide +kernel
theorem dX0_nextMatch_15 : decode cX0_nextMatch 15 = .ok (.isub, 1) := by decide +kernel
theorem dX0_nextMatch_16 : decode cX0_nextMatch 16 = .ok (.aload_n 0, 1) := by decide +kernel
theorem dX0_nextMatch_17 : decode cX0_nextMatch 17 = .ok (.getfield 19, 3) := by decide +kernel
theorem dX0_nextMatch_20 : decode cX0_nextMatch 20 = .ok (.invokestatic 34, 3) := by decide +kernel
theorem dX0_nextMatch_23 : decode cX0_nextMatch 23 = .ok (.iadd, 1) := by decide +kernel
theorem dX0_nextMatch_24 : decode cX0_nextMatch 24 = .ok (.ireturn, 1) := by decide +kernel
theorem dX0_firstPlace_0 : decode cX0_firstPlace 0 = .ok (.aload_n 0, 1) := by decide +kernel
theorem dX0_firstPlace_1 : decode cX0_firstPlace 1 = .ok (.iload_n 1, 1) := by decide +kernel
theorem dX0_firstPlace_2 : decode cX0_firstPlace 2 = .ok (.iload_n 3, 1) := by decide +kernel
theorem dX0_firstPlace_3 : decode cX0_firstPlace 3 = .ok (.invokevirtual 37, 3) := by decide +kernel
theorem dX0_firstPlace_6 : decode cX0_firstPlace 6 = .ok (.istore 4, 2) := by decide +kernel
theorem dX0_firstPlace_8 : decode cX0_firstPlace 8 = .ok (.iconst 0, 1) := by decide +kernel
theorem dX0_firstPlace_9 : decode cX0_firstPlace 9 = .ok (.istore 5, 2) := by decide +kernel
theorem dX0_firstPlace_11 : decode cX0_firstPlace 11 = .ok (.iload 5, 2) := by decide +kernel
theorem dX0_firstPlace_13 : decode cX0_firstPlace 13 = .ok (.aload_n 0, 1) := by decide +kernel
theorem dX0_firstPlace_14 : decode cX0_firstPlace 14 = .ok (.getfield 22, 3) := by decide +kernel
theorem dX0_firstPlace_17 : decode cX0_firstPlace 17 = .ok (.if_icmp .gt 40, 3) := by decide +kernel
theorem dX0_firstPlace_20 : decode cX0_firstPlace 20 = .ok (.aload_n 0, 1) := by decide +kernel
theorem dX0_firstPlace_21 : decode cX0_firstPlace 21 = .ok (.iload 4, 2) := by decide +kernel
theorem dX0_firstPlace_23 : decode cX0_firstPlace 23 = .ok (.iload 4, 2) := by decide +kernel
theorem dX0_firstPlace_25 : decode cX0_firstPlace 25 = .ok (.iload_n 2, 1) := by decide +kernel
theorem dX0_firstPlace_26 : decode cX0_firstPlace 26 = .ok (.iadd, 1) := by decide +kernel
theorem dX0_firstPlace_27 : decode cX0_firstPlace 27 = .ok (.invokevirtual 25, 3) := by decide +kernel
theorem dX0_firstPlace_30 : decode cX0_firstPlace 30 = .ok (.istore 6, 2) := by decide +kernel
theorem dX0_firstPlace_32 : decode cX0_firstPlace 32 = .ok (.iload 6, 2) := by decide +kernel
theorem dX0_firstPlace_34 : decode cX0_firstPlace 34 = .ok (.ifCond .ge 6, 3) := by decide +kernel
theorem dX0_firstPlace_37 : decode cX0_firstPlace 37 = .ok (.goto 20, 3) := by decide +kernel
theorem dX0_firstPlace_40 : decode cX0_firstPlace 40 = .ok (.aload_n 0, 1) := by decide +kernel
theorem dX0_firstPlace_41 : decode cX0_firstPlace 41 = .ok (.iload 6, 2) := by decide +kernel
theorem dX0_firstPlace_43 : decode cX0_firstPlace 43 = .ok (.iconst 1, 1) := by decide +kernel
theorem dX0_firstPlace_44 : decode cX0_firstPlace 44 = .ok (.iadd, 1) := by decide +kernel
theorem dX0_firstPlace_45 : decode cX0_firstPlace 45 = .ok (.iload_n 3, 1) := by decide +kernel
theorem dX0_firstPlace_46 : decode cX0_firstPlace 46 = .ok (.invokevirtual 37, 3) := by decide +kernel
theorem dX0_firstPlace_49 : decode cX0_firstPlace 49 = .ok (.istore 4, 2) := by decide +kernel
theorem dX0_firstPlace_51 : decode cX0_firstPlace 51 = .ok (.iinc 5 1, 3) := by decide +kernel
theorem dX0_firstPlace_54 : decode cX0_firstPlace 54 = .ok (.goto (-43), 3) := by decide +kernel
theorem dX0_firstPlace_57 : decode cX0_firstPlace 57 = .ok (.iload 4, 2) := by decide +kernel
theorem dX0_firstPlace_59 : decode cX0_firstPlace 59 = .ok (.iload_n 2, 1) := by decide +kernel
theorem dX0_firstPlace_60 : decode cX0_firstPlace 60 = .ok (.iadd, 1) := by decide +kernel
theorem dX0_firstPlace_61 : decode cX0_firstPlace 61 = .ok (.aload_n 0, 1) := by decide +kernel
theorem dX0_firstPlace_62 : decode cX0_firstPlace 62 = .ok (.getfield 15, 3) := by decide +kernel
theorem dX0_firstPlace_65 : decode cX0_firstPlace 65 = .ok (.if_icmp .gt 8, 3) := by decide +kernel
theorem dX0_firstPlace_68 : decode cX0_firstPlace 68 = .ok (.iload 4, 2) := by decide +kernel
theorem dX0_firstPlace_70 : decode cX0_firstPlace 70 = .ok (.goto 4, 3) := by decide +kernel
theorem dX0_firstPlace_73 : decode cX0_firstPlace 73 = .ok (.iconst (-1), 1) := by decide +kernel
theorem dX0_firstPlace_74 : decode cX0_firstPlace 74 = .ok (.ireturn, 1) := by decide +kernel
theorem dX1_init_0 : decode cX1_init 0 = .ok (.aload_n 0, 1) := by decide +kernel
theorem dX1_init_1 : decode cX1_init 1 = .ok (.invokespecial 3, 3) := by decide +kernel
theorem dX1_init_4 : decode cX1_init 4 = .ok (.aload_n 0, 1) := by decide +kernel
theorem dX1_init_5 : decode cX1_init 5 = .ok (.bipush 6, 2) := by decide +kernel
theorem dX1_init_7 : decode cX1_init 7 = .ok (.newarray .int, 2) := by decide +kernel
theorem dX1_init_9 : decode cX1_init 9 = .ok (.putfield 9, 3) := by decide +kernel
theorem dX1_init_12 : decode cX1_init 12 = .ok (.return_, 1) := by decide +kernel
theorem dX1_cut_0 : decode cX1_cut 0 = .ok (.aload_n 1, 1) := by decide +kernel
theorem dX1_cut_1 : decode cX1_cut 1 = .ok (.getfield 15, 3) := by decide +kernel
theorem dX1_cut_4 : decode cX1_cut 4 = .ok (.istore 5, 2) := by decide +kernel
theorem dX1_cut_6 : decode cX1_cut 6 = .ok (.iconst 0, 1) := by decide +kernel
theorem dX1_cut_7 : decode cX1_cut 7 = .ok (.istore 6, 2) := by decide +kernel
theorem dX1_cut_9 : decode cX1_cut 9 = .ok (.iload 6, 2) := by decide +kernel
theorem dX1_cut_11 : decode cX1_cut 11 = .ok (.iload_n 3, 1) := by decide +kernel
theorem dX1_cut_12 : decode cX1_cut 12 = .ok (.if_icmp .ge 53, 3) := by decide +kernel
theorem dX1_cut_15 : decode cX1_cut 15 = .ok (.iload 6, 2) := by decide +kernel
theorem dX1_cut_17 : decode cX1_cut 17 = .ok (.aload_n 0, 1) := by decide +kernel
theorem dX1_cut_18 : decode cX1_cut 18 = .ok (.getfield 9, 3) := by decide +kernel
theorem dX1_cut_21 : decode cX1_cut 21 = .ok (.arraylength, 1) := by decide +kernel
theorem dX1_cut_22 : decode cX1_cut 22 = .ok (.if_icmp .ge 43, 3) := by decide +kernel
theorem dX1_cut_25 : decode cX1_cut 25 = .ok (.aload_n 1, 1) := by decide +kernel
theorem dX1_cut_26 : decode cX1_cut 26 = .ok (.iload 5, 2) := by decide +kernel
theorem dX1_cut_28 : decode cX1_cut 28 = .ok (.iload 4, 2) := by decide +kernel
theorem dX1_cut_30 : decode cX1_cut 30 = .ok (.iload_n 2, 1) := by decide +kernel
theorem dX1_cut_31 : decode cX1_cut 31 = .ok (.invokevirtual 21, 3) := by decide +kernel
theorem dX1_cut_34 : decode cX1_cut 34 = .ok (.istore 7, 2) := by decide +kernel
theorem dX1_cut_36 : decode cX1_cut 36 = .ok (.iload 7, 2) := by decide +kernel
theorem dX1_cut_38 : decode cX1_cut 38 = .ok (.ifCond .ge 5, 3) := by decide +kernel
theorem dX1_cut_41 : decode cX1_cut 41 = .ok (.iconst 0, 1) := by decide +kernel
theorem dX1_cut_42 : decode cX1_cut 42 = .ok (.ireturn, 1) := by decide +kernel
theorem dX1_cut_43 : decode cX1_cut 43 = .ok (.aload_n 0, 1) := by decide +kernel
theorem dX1_cut_44 : decode cX1_cut 44 = .ok (.getfield 9, 3) := by decide +kernel
theorem dX1_cut_47 : decode cX1_cut 47 = .ok (.iload 6, 2) := by decide +kernel
theorem dX1_cut_49 : decode cX1_cut 49 = .ok (.iload 7, 2) := by decide +kernel
theorem dX1_cut_51 : decode cX1_cut 51 = .ok (.iastore, 1) := by decide +kernel
theorem dX1_cut_52 : decode cX1_cut 52 = .ok (.iload 7, 2) := by decide +kernel
theorem dX1_cut_54 : decode cX1_cut 54 = .ok (.iload 4, 2) := by decide +kernel
theorem dX1_cut_56 : decode cX1_cut 56 = .ok (.iadd, 1) := by decide +kernel
theorem dX1_cut_57 : decode cX1_cut 57 = .ok (.istore 5, 2) := by decide +kernel
theorem dX1_cut_59 : decode cX1_cut 59 = .ok (.iinc 6 1, 3) := by decide +kernel
theorem dX1_cut_62 : decode cX1_cut 62 = .ok (.goto (-53), 3) := by decide +kernel
theorem dX1_cut_65 : decode cX1_cut 65 = .ok (.aload_n 1, 1) := by decide +kernel
theorem dX1_cut_66 : decode cX1_cut 66 = .ok (.iload 5, 2) := by decide +kernel
theorem dX1_cut_68 : decode cX1_cut 68 = .ok (.putfield 15, 3) := by decide +kernel
theorem dX1_cut_71 : decode cX1_cut 71 = .ok (.aload_n 0, 1) := by decide +kernel
theorem dX1_cut_72 : decode cX1_cut 72 = .ok (.aload_n 1, 1) := by decide +kernel
theorem dX1_cut_73 : decode cX1_cut 73 = .ok (.putfield 25, 3) := by decide +kernel
theorem dX1_cut_76 : decode cX1_cut 76 = .ok (.aload_n 0, 1) := by decide +kernel
theorem dX1_cut_77 : decode cX1_cut 77 = .ok (.iload_n 2, 1) := by decide +kernel
theorem dX1_cut_78 : decode cX1_cut 78 = .ok (.putfield 29, 3) := by decide +kernel
theorem dX1_cut_81 : decode cX1_cut 81 = .ok (.aload_n 0, 1) := by decide +kernel
theorem dX1_cut_82 : decode cX1_cut 82 = .ok (.iload_n 3, 1) := by decide +kernel
theorem dX1_cut_83 : decode cX1_cut 83 = .ok (.putfield 32, 3) := by decide +kernel
theorem dX1_cut_86 : decode cX1_cut 86 = .ok (.aload_n 0, 1) := by decide +kernel
theorem dX1_cut_87 : decode cX1_cut 87 = .ok (.iload 4, 2) := by decide +kernel
theorem dX1_cut_89 : decode cX1_cut 89 = .ok (.putfield 35, 3) := by decide +kernel
theorem dX1_cut_92 : decode cX1_cut 92 = .ok (.iconst 1, 1) := by decide +kernel
theorem dX1_cut_93 : decode cX1_cut 93 = .ok (.ireturn, 1) := by decide +kernel
theorem dX1_takeAway_0 : decode cX1_takeAway 0 = .ok (.aload_n 0, 1) := by decide +kernel
theorem dX1_takeAway_1 : decode cX1_takeAway 1 = .ok (.iconst 0, 1) := by decide +kernel
theorem dX1_takeAway_2 : decode cX1_takeAway 2 = .ok (.putfield 32, 3) := by decide +kernel
theorem dX1_takeAway_5 : decode cX1_takeAway 5 = .ok (.aload_n 0, 1) := by decide +kernel
theorem dX1_takeAway_6 : decode cX1_takeAway 6 = .ok (.aconst_null, 1) := by decide +kernel
theorem dX1_takeAway_7 : decode cX1_takeAway 7 = .ok (.putfield 25, 3) := by decide +kernel
theorem dX1_takeAway_10 : decode cX1_takeAway 10 = .ok (.return_, 1) := by decide +kernel
theorem dX1_placeAt_0 : decode cX1_placeAt 0 = .ok (.iload_n 1, 1) := by decide +kernel
theorem dX1_placeAt_1 : decode cX1_placeAt 1 = .ok (.ifCond .lt 21, 3) := by decide +kernel
theorem dX1_placeAt_4 : decode cX1_placeAt 4 = .ok (.iload_n 1, 1) := by decide +kernel
theorem dX1_placeAt_5 : decode cX1_placeAt 5 = .ok (.aload_n 0, 1) := by decide +kernel
theorem dX1_placeAt_6 : decode cX1_placeAt 6 = .ok (.getfield 9, 3) := by decide +kernel
theorem dX1_placeAt_9 : decode cX1_placeAt 9 = .ok (.arraylength, 1) := by decide +kernel
theorem dX1_placeAt_10 : decode cX1_placeAt 10 = .ok (.if_icmp .ge 12, 3) := by decide +kernel
theorem dX1_placeAt_13 : decode cX1_placeAt 13 = .ok (.aload_n 0, 1) := by decide +kernel
theorem dX1_placeAt_14 : decode cX1_placeAt 14 = .ok (.getfield 9, 3) := by decide +kernel
theorem dX1_placeAt_17 : decode cX1_placeAt 17 = .ok (.iload_n 1, 1) := by decide +kernel
theorem dX1_placeAt_18 : decode cX1_placeAt 18 = .ok (.iaload, 1) := by decide +kernel
theorem dX1_placeAt_19 : decode cX1_placeAt 19 = .ok (.goto 4, 3) := by decide +kernel
theorem dX1_placeAt_22 : decode cX1_placeAt 22 = .ok (.iconst 0, 1) := by decide +kernel
theorem dX1_placeAt_23 : decode cX1_placeAt 23 = .ok (.ireturn, 1) := by decide +kernel
theorem dX1_lengthInAll_0 : decode cX1_lengthInAll 0 = .ok (.aload_n 0, 1) := by decide +kernel
theorem dX1_lengthInAll_1 : decode cX1_lengthInAll 1 = .ok (.getfield 32, 3) := by decide +kernel
theorem dX1_lengthInAll_4 : decode cX1_lengthInAll 4 = .ok (.aload_n 0, 1) := by decide +kernel
theorem dX1_lengthInAll_5 : decode cX1_lengthInAll 5 = .ok (.getfield 35, 3) := by decide +kernel
theorem dX1_lengthInAll_8 : decode cX1_lengthInAll 8 = .ok (.imul, 1) := by decide +kernel
theorem dX1_lengthInAll_9 : decode cX1_lengthInAll 9 = .ok (.ireturn, 1) := by decide +kernel
theorem dX1_fitsItsCloth_0 : decode cX1_fitsItsCloth 0 = .ok (.aload_n 0, 1) := by decide +kernel
theorem dX1_fitsItsCloth_1 : decode cX1_fitsItsCloth 1 = .ok (.getfield 25, 3) := by decide +kernel
theorem dX1_fitsItsCloth_4 : decode cX1_fitsItsCloth 4 = .ok (.ifnonnull 16, 3) := by decide +kernel
theorem dX1_fitsItsCloth_7 : decode cX1_fitsItsCloth 7 = .ok (.aload_n 0, 1) := by decide +kernel
theorem dX1_fitsItsCloth_8 : decode cX1_fitsItsCloth 8 = .ok (.getfield 32, 3) := by decide +kernel
theorem dX1_fitsItsCloth_11 : decode cX1_fitsItsCloth 11 = .ok (.ifCond .ne 7, 3) := by decide +kernel
theorem dX1_fitsItsCloth_14 : decode cX1_fitsItsCloth 14 = .ok (.iconst 1, 1) := by decide +kernel
theorem dX1_fitsItsCloth_15 : decode cX1_fitsItsCloth 15 = .ok (.goto 4, 3) := by decide +kernel
theorem dX1_fitsItsCloth_18 : decode cX1_fitsItsCloth 18 = .ok (.iconst 0, 1) := by decide +kernel
theorem dX1_fitsItsCloth_19 : decode cX1_fitsItsCloth 19 = .ok (.ireturn, 1) := by decide +kernel
theorem dX1_fitsItsCloth_20 : decode cX1_fitsItsCloth 20 = .ok (.iconst 0, 1) := by decide +kernel
theorem dX1_fitsItsCloth_21 : decode cX1_fitsItsCloth 21 = .ok (.istore_n 1, 1) := by decide +kernel
theorem dX1_fitsItsCloth_22 : decode cX1_fitsItsCloth 22 = .ok (.iload_n 1, 1) := by decide +kernel
theorem dX1_fitsItsCloth_23 : decode cX1_fitsItsCloth 23 = .ok (.aload_n 0, 1) := by decide +kernel
theorem dX1_fitsItsCloth_24 : decode cX1_fitsItsCloth 24 = .ok (.getfield 32, 3) := by decide +kernel
theorem dX1_fitsItsCloth_27 : decode cX1_fitsItsCloth 27 = .ok (.if_icmp .ge 50, 3) := by decide +kernel
theorem dX1_fitsItsCloth_30 : decode cX1_fitsItsCloth 30 = .ok (.aload_n 0, 1) := by decide +kernel
theorem dX1_fitsItsCloth_31 : decode cX1_fitsItsCloth 31 = .ok (.iload_n 1, 1) := by decide +kernel
theorem dX1_fitsItsCloth_32 : decode cX1_fitsItsCloth 32 = .ok (.invokevirtual 38, 3) := by decide +kernel
theorem dX1_fitsItsCloth_35 : decode cX1_fitsItsCloth 35 = .ok (.istore_n 2, 1) := by decide +kernel
theorem dX1_fitsItsCloth_36 : decode cX1_fitsItsCloth 36 = .ok (.iload_n 2, 1) := by decide +kernel
theorem dX1_fitsItsCloth_37 : decode cX1_fitsItsCloth 37 = .ok (.aload_n 0, 1) := by decide +kernel
theorem dX1_fitsItsCloth_38 : decode cX1_fitsItsCloth 38 = .ok (.getfield 25, 3) := by decide +kernel
theorem dX1_fitsItsCloth_41 : decode cX1_fitsItsCloth 41 = .ok (.iload_n 2, 1) := by decide +kernel
theorem dX1_fitsItsCloth_42 : decode cX1_fitsItsCloth 42 = .ok (.aload_n 0, 1) := by decide +kernel
theorem dX1_fitsItsCloth_43 : decode cX1_fitsItsCloth 43 = .ok (.getfield 29, 3) := by decide +kernel
theorem dX1_fitsItsCloth_46 : decode cX1_fitsItsCloth 46 = .ok (.invokevirtual 42, 3) := by decide +kernel
theorem dX1_fitsItsCloth_49 : decode cX1_fitsItsCloth 49 = .ok (.if_icmp .ne 20, 3) := by decide +kernel
theorem dX1_fitsItsCloth_52 : decode cX1_fitsItsCloth 52 = .ok (.aload_n 0, 1) := by decide +kernel
theorem dX1_fitsItsCloth_53 : decode cX1_fitsItsCloth 53 = .ok (.getfield 25, 3) := by decide +kernel
theorem dX1_fitsItsCloth_56 : decode cX1_fitsItsCloth 56 = .ok (.iload_n 2, 1) := by decide +kernel
theorem dX1_fitsItsCloth_57 : decode cX1_fitsItsCloth 57 = .ok (.iload_n 2, 1) := by decide +kernel
theorem dX1_fitsItsCloth_58 : decode cX1_fitsItsCloth 58 = .ok (.aload_n 0, 1) := by decide +kernel
theorem dX1_fitsItsCloth_59 : decode cX1_fitsItsCloth 59 = .ok (.getfield 35, 3) := by decide +kernel
theorem dX1_fitsItsCloth_62 : decode cX1_fitsItsCloth 62 = .ok (.iadd, 1) := by decide +kernel
theorem dX1_fitsItsCloth_63 : decode cX1_fitsItsCloth 63 = .ok (.invokevirtual 46, 3) := by decide +kernel
theorem dX1_fitsItsCloth_66 : decode cX1_fitsItsCloth 66 = .ok (.ifCond .eq 5, 3) := by decide +kernel
theorem dX1_fitsItsCloth_69 : decode cX1_fitsItsCloth 69 = .ok (.iconst 0, 1) := by decide +kernel
theorem dX1_fitsItsCloth_70 : decode cX1_fitsItsCloth 70 = .ok (.ireturn, 1) := by decide +kernel
theorem dX1_fitsItsCloth_71 : decode cX1_fitsItsCloth 71 = .ok (.iinc 1 1, 3) := by decide +kernel
theorem dX1_fitsItsCloth_74 : decode cX1_fitsItsCloth 74 = .ok (.goto (-52), 3) := by decide +kernel
theorem dX1_fitsItsCloth_77 : decode cX1_fitsItsCloth 77 = .ok (.iconst 1, 1) := by decide +kernel
theorem dX1_fitsItsCloth_78 : decode cX1_fitsItsCloth 78 = .ok (.ireturn, 1) := by decide +kernel
theorem dX1_overlaps_0 : decode cX1_overlaps 0 = .ok (.aload_n 0, 1) := by decide +kernel
theorem dX1_overlaps_1 : decode cX1_overlaps 1 = .ok (.getfield 25, 3) := by decide +kernel
theorem dX1_overlaps_4 : decode cX1_overlaps 4 = .ok (.ifnull 14, 3) := by decide +kernel
theorem dX1_overlaps_7 : decode cX1_overlaps 7 = .ok (.aload_n 0, 1) := by decide +kernel
theorem dX1_overlaps_8 : decode cX1_overlaps 8 = .ok (.getfield 25, 3) := by decide +kernel
theorem dX1_overlaps_11 : decode cX1_overlaps 11 = .ok (.aload_n 1, 1) := by decide +kernel
theorem dX1_overlaps_12 : decode cX1_overlaps 12 = .ok (.getfield 25, 3) := by decide +kernel
theorem dX1_overlaps_15 : decode cX1_overlaps 15 = .ok (.if_acmp .eq 5, 3) := by decide +kernel
theorem dX1_overlaps_18 : decode cX1_overlaps 18 = .ok (.iconst 0, 1) := by decide +kernel
theorem dX1_overlaps_19 : decode cX1_overlaps 19 = .ok (.ireturn, 1) := by decide +kernel
theorem dX1_overlaps_20 : decode cX1_overlaps 20 = .ok (.iconst 0, 1) := by decide +kernel
theorem dX1_overlaps_21 : decode cX1_overlaps 21 = .ok (.istore_n 2, 1) := by decide +kernel
theorem dX1_overlaps_22 : decode cX1_overlaps 22 = .ok (.iload_n 2, 1) := by decide +kernel
theorem dX1_overlaps_23 : decode cX1_overlaps 23 = .ok (.aload_n 0, 1) := by decide +kernel
theorem dX1_overlaps_24 : decode cX1_overlaps 24 = .ok (.getfield 32, 3) := by decide +kernel
theorem dX1_overlaps_27 : decode cX1_overlaps 27 = .ok (.if_icmp .ge 85, 3) := by decide +kernel
theorem dX1_overlaps_30 : decode cX1_overlaps 30 = .ok (.iconst 0, 1) := by decide +kernel
theorem dX1_overlaps_31 : decode cX1_overlaps 31 = .ok (.istore_n 3, 1) := by decide +kernel
theorem dX1_overlaps_32 : decode cX1_overlaps 32 = .ok (.iload_n 3, 1) := by decide +kernel
theorem dX1_overlaps_33 : decode cX1_overlaps 33 = .ok (.aload_n 1, 1) := by decide +kernel
theorem dX1_overlaps_34 : decode cX1_overlaps 34 = .ok (.getfield 32, 3) := by decide +kernel
theorem dX1_overlaps_37 : decode cX1_overlaps 37 = .ok (.if_icmp .ge 69, 3) := by decide +kernel
theorem dX1_overlaps_40 : decode cX1_overlaps 40 = .ok (.aload_n 0, 1) := by decide +kernel
theorem dX1_overlaps_41 : decode cX1_overlaps 41 = .ok (.aload_n 1, 1) := by decide +kernel
theorem dX1_overlaps_42 : decode cX1_overlaps 42 = .ok (.if_acmp .ne 12, 3) := by decide +kernel
theorem dX1_overlaps_45 : decode cX1_overlaps 45 = .ok (.iload_n 2, 1) := by decide +kernel
theorem dX1_overlaps_46 : decode cX1_overlaps 46 = .ok (.iload_n 3, 1) := by decide +kernel
theorem dX1_overlaps_47 : decode cX1_overlaps 47 = .ok (.if_icmp .ne 7, 3) := by decide +kernel
theorem dX1_overlaps_50 : decode cX1_overlaps 50 = .ok (.iconst 1, 1) := by decide +kernel
theorem dX1_overlaps_51 : decode cX1_overlaps 51 = .ok (.goto 4, 3) := by decide +kernel
theorem dX1_overlaps_54 : decode cX1_overlaps 54 = .ok (.iconst 0, 1) := by decide +kernel
theorem dX1_overlaps_55 : decode cX1_overlaps 55 = .ok (.istore 4, 2) := by decide +kernel
theorem dX1_overlaps_57 : decode cX1_overlaps 57 = .ok (.iload 4, 2) := by decide +kernel
theorem dX1_overlaps_59 : decode cX1_overlaps 59 = .ok (.ifCond .ne 41, 3) := by decide +kernel
theorem dX1_overlaps_62 : decode cX1_overlaps 62 = .ok (.aload_n 0, 1) := by decide +kernel
theorem dX1_overlaps_63 : decode cX1_overlaps 63 = .ok (.iload_n 2, 1) := by decide +kernel
theorem dX1_overlaps_64 : decode cX1_overlaps 64 = .ok (.invokevirtual 38, 3) := by decide +kernel
theorem dX1_overlaps_67 : decode cX1_overlaps 67 = .ok (.aload_n 1, 1) := by decide +kernel
theorem dX1_overlaps_68 : decode cX1_overlaps 68 = .ok (.iload_n 3, 1) := by decide +kernel
theorem dX1_overlaps_69 : decode cX1_overlaps 69 = .ok (.invokevirtual 38, 3) := by decide +kernel
theorem dX1_overlaps_72 : decode cX1_overlaps 72 = .ok (.aload_n 1, 1) := by decide +kernel
theorem dX1_overlaps_73 : decode cX1_overlaps 73 = .ok (.getfield 35, 3) := by decide +kernel
theorem dX1_overlaps_76 : decode cX1_overlaps 76 = .ok (.iadd, 1) := by decide +kernel
theorem dX1_overlaps_77 : decode cX1_overlaps 77 = .ok (.if_icmp .ge 23, 3) := by decide +kernel
theorem dX1_overlaps_80 : decode cX1_overlaps 80 = .ok (.aload_n 1, 1) := by decide +kernel
theorem dX1_overlaps_81 : decode cX1_overlaps 81 = .ok (.iload_n 3, 1) := by decide +kernel
theorem dX1_overlaps_82 : decode cX1_overlaps 82 = .ok (.invokevirtual 38, 3) := by decide +kernel
theorem dX1_overlaps_85 : decode cX1_overlaps 85 = .ok (.aload_n 0, 1) := by decide +kernel
theorem dX1_overlaps_86 : decode cX1_overlaps 86 = .ok (.iload_n 2, 1) := by decide +kernel
theorem dX1_overlaps_87 : decode cX1_overlaps 87 = .ok (.invokevirtual 38, 3) := by decide +kernel
theorem dX1_overlaps_90 : decode cX1_overlaps 90 = .ok (.aload_n 0, 1) := by decide +kernel
theorem dX1_overlaps_91 : decode cX1_overlaps 91 = .ok (.getfield 35, 3) := by decide +kernel
theorem dX1_overlaps_94 : decode cX1_overlaps 94 = .ok (.iadd, 1) := by decide +kernel
theorem dX1_overlaps_95 : decode cX1_overlaps 95 = .ok (.if_icmp .ge 5, 3) := by decide +kernel
theorem dX1_overlaps_98 : decode cX1_overlaps 98 = .ok (.iconst 1, 1) := by decide +kernel
theorem dX1_overlaps_99 : decode cX1_overlaps 99 = .ok (.ireturn, 1) := by decide +kernel
theorem dX1_overlaps_100 : decode cX1_overlaps 100 = .ok (.iinc 3 1, 3) := by decide +kernel
theorem dX1_overlaps_103 : decode cX1_overlaps 103 = .ok (.goto (-71), 3) := by decide +kernel
theorem dX1_overlaps_106 : decode cX1_overlaps 106 = .ok (.iinc 2 1, 3) := by decide +kernel
theorem dX1_overlaps_109 : decode cX1_overlaps 109 = .ok (.goto (-87), 3) := by decide +kernel
theorem dX1_overlaps_112 : decode cX1_overlaps 112 = .ok (.iconst 0, 1) := by decide +kernel
theorem dX1_overlaps_113 : decode cX1_overlaps 113 = .ok (.ireturn, 1) := by decide +kernel
theorem dX2_init_0 : decode cX2_init 0 = .ok (.aload_n 0, 1) := by decide +kernel
theorem dX2_init_1 : decode cX2_init 1 = .ok (.invokespecial 3, 3) := by decide +kernel
theorem dX2_init_4 : decode cX2_init 4 = .ok (.aload_n 0, 1) := by decide +kernel
theorem dX2_init_5 : decode cX2_init 5 = .ok (.new 9, 3) := by decide +kernel
theorem dX2_init_8 : decode cX2_init 8 = .ok (.dup, 1) := by decide +kernel
theorem dX2_init_9 : decode cX2_init 9 = .ok (.invokespecial 11, 3) := by decide +kernel
theorem dX2_init_12 : decode cX2_init 12 = .ok (.putfield 12, 3) := by decide +kernel
theorem dX2_init_15 : decode cX2_init 15 = .ok (.return_, 1) := by decide +kernel
theorem dX2_count_0 : decode cX2_count 0 = .ok (.aload_n 0, 1) := by decide +kernel
theorem dX2_count_1 : decode cX2_count 1 = .ok (.getfield 12, 3) := by decide +kernel
theorem dX2_count_4 : decode cX2_count 4 = .ok (.invokevirtual 18, 3) := by decide +kernel
theorem dX2_count_7 : decode cX2_count 7 = .ok (.ireturn, 1) := by decide +kernel
theorem dX2_add_0 : decode cX2_add 0 = .ok (.aload_n 0, 1) := by decide +kernel
theorem dX2_add_1 : decode cX2_add 1 = .ok (.getfield 12, 3) := by decide +kernel
theorem dX2_add_4 : decode cX2_add 4 = .ok (.aload_n 1, 1) := by decide +kernel
theorem dX2_add_5 : decode cX2_add 5 = .ok (.invokevirtual 22, 3) := by decide +kernel
theorem dX2_add_8 : decode cX2_add 8 = .ok (.pop, 1) := by decide +kernel
theorem dX2_add_9 : decode cX2_add 9 = .ok (.return_, 1) := by decide +kernel
theorem dX2_takeTopmost_0 : decode cX2_takeTopmost 0 = .ok (.aload_n 0, 1) := by decide +kernel
theorem dX2_takeTopmost_1 : decode cX2_takeTopmost 1 = .ok (.getfield 12, 3) := by decide +kernel
theorem dX2_takeTopmost_4 : decode cX2_takeTopmost 4 = .ok (.invokevirtual 26, 3) := by decide +kernel
theorem dX2_takeTopmost_7 : decode cX2_takeTopmost 7 = .ok (.ifCond .ne 20, 3) := by decide +kernel
theorem dX2_takeTopmost_10 : decode cX2_takeTopmost 10 = .ok (.aload_n 0, 1) := by decide +kernel
theorem dX2_takeTopmost_11 : decode cX2_takeTopmost 11 = .ok (.getfield 12, 3) := by decide +kernel
theorem dX2_takeTopmost_14 : decode cX2_takeTopmost 14 = .ok (.aload_n 0, 1) := by decide +kernel
theorem dX2_takeTopmost_15 : decode cX2_takeTopmost 15 = .ok (.getfield 12, 3) := by decide +kernel
theorem dX2_takeTopmost_18 : decode cX2_takeTopmost 18 = .ok (.invokevirtual 18, 3) := by decide +kernel
theorem dX2_takeTopmost_21 : decode cX2_takeTopmost 21 = .ok (.iconst 1, 1) := by decide +kernel
theorem dX2_takeTopmost_22 : decode cX2_takeTopmost 22 = .ok (.isub, 1) := by decide +kernel
theorem dX2_takeTopmost_23 : decode cX2_takeTopmost 23 = .ok (.invokevirtual 30, 3) := by decide +kernel
theorem dX2_takeTopmost_26 : decode cX2_takeTopmost 26 = .ok (.pop, 1) := by decide +kernel
theorem dX2_takeTopmost_27 : decode cX2_takeTopmost 27 = .ok (.return_, 1) := by decide +kernel
theorem dX2_settle_0 : decode cX2_settle 0 = .ok (.iconst 0, 1) := by decide +kernel
theorem dX2_settle_1 : decode cX2_settle 1 = .ok (.istore_n 2, 1) := by decide +kernel
theorem dX2_settle_2 : decode cX2_settle 2 = .ok (.iload_n 2, 1) := by decide +kernel
theorem dX2_settle_3 : decode cX2_settle 3 = .ok (.aload_n 0, 1) := by decide +kernel
theorem dX2_settle_4 : decode cX2_settle 4 = .ok (.getfield 12, 3) := by decide +kernel
theorem dX2_settle_7 : decode cX2_settle 7 = .ok (.invokevirtual 18, 3) := by decide +kernel
theorem dX2_settle_10 : decode cX2_settle 10 = .ok (.if_icmp .ge 24, 3) := by decide +kernel
theorem dX2_settle_13 : decode cX2_settle 13 = .ok (.aload_n 0, 1) := by decide +kernel
theorem dX2_settle_14 : decode cX2_settle 14 = .ok (.getfield 12, 3) := by decide +kernel
theorem dX2_settle_17 : decode cX2_settle 17 = .ok (.iload_n 2, 1) := by decide +kernel
theorem dX2_settle_18 : decode cX2_settle 18 = .ok (.invokevirtual 34, 3) := by decide +kernel
theorem dX2_settle_21 : decode cX2_settle 21 = .ok (.checkcast 37, 3) := by decide +kernel
theorem dX2_settle_24 : decode cX2_settle 24 = .ok (.iload_n 1, 1) := by decide +kernel
theorem dX2_settle_25 : decode cX2_settle 25 = .ok (.invokevirtual 39, 3) := by decide +kernel
theorem dX2_settle_28 : decode cX2_settle 28 = .ok (.iinc 2 1, 3) := by decide +kernel
theorem dX2_settle_31 : decode cX2_settle 31 = .ok (.goto (-29), 3) := by decide +kernel
theorem dX2_settle_34 : decode cX2_settle 34 = .ok (.return_, 1) := by decide +kernel
theorem dX2_thicknessInAll_0 : decode cX2_thicknessInAll 0 = .ok (.iconst 0, 1) := by decide +kernel
theorem dX2_thicknessInAll_1 : decode cX2_thicknessInAll 1 = .ok (.istore_n 1, 1) := by decide +kernel
theorem dX2_thicknessInAll_2 : decode cX2_thicknessInAll 2 = .ok (.iconst 0, 1) := by decide +kernel
theorem dX2_thicknessInAll_3 : decode cX2_thicknessInAll 3 = .ok (.istore_n 2, 1) := by decide +kernel
theorem dX2_thicknessInAll_4 : decode cX2_thicknessInAll 4 = .ok (.iload_n 2, 1) := by decide +kernel
theorem dX2_thicknessInAll_5 : decode cX2_thicknessInAll 5 = .ok (.aload_n 0, 1) := by decide +kernel
theorem dX2_thicknessInAll_6 : decode cX2_thicknessInAll 6 = .ok (.getfield 12, 3) := by decide +kernel
theorem dX2_thicknessInAll_9 : decode cX2_thicknessInAll 9 = .ok (.invokevirtual 18, 3) := by decide +kernel
theorem dX2_thicknessInAll_12 : decode cX2_thicknessInAll 12 = .ok (.if_icmp .ge 26, 3) := by decide +kernel
theorem dX2_thicknessInAll_15 : decode cX2_thicknessInAll 15 = .ok (.iload_n 1, 1) := by decide +kernel
theorem dX2_thicknessInAll_16 : decode cX2_thicknessInAll 16 = .ok (.aload_n 0, 1) := by decide +kernel
theorem dX2_thicknessInAll_17 : decode cX2_thicknessInAll 17 = .ok (.getfield 12, 3) := by decide +kernel
theorem dX2_thicknessInAll_20 : decode cX2_thicknessInAll 20 = .ok (.iload_n 2, 1) := by decide +kernel
theorem dX2_thicknessInAll_21 : decode cX2_thicknessInAll 21 = .ok (.invokevirtual 34, 3) := by decide +kernel
theorem dX2_thicknessInAll_24 : decode cX2_thicknessInAll 24 = .ok (.checkcast 37, 3) := by decide +kernel
theorem dX2_thicknessInAll_27 : decode cX2_thicknessInAll 27 = .ok (.getfield 43, 3) := by decide +kernel
theorem dX2_thicknessInAll_30 : decode cX2_thicknessInAll 30 = .ok (.iadd, 1) := by decide +kernel
theorem dX2_thicknessInAll_31 : decode cX2_thicknessInAll 31 = .ok (.istore_n 1, 1) := by decide +kernel
theorem dX2_thicknessInAll_32 : decode cX2_thicknessInAll 32 = .ok (.iinc 2 1, 3) := by decide +kernel
theorem dX2_thicknessInAll_35 : decode cX2_thicknessInAll 35 = .ok (.goto (-31), 3) := by decide +kernel
theorem dX2_thicknessInAll_38 : decode cX2_thicknessInAll 38 = .ok (.iload_n 1, 1) := by decide +kernel
theorem dX2_thicknessInAll_39 : decode cX2_thicknessInAll 39 = .ok (.ireturn, 1) := by decide +kernel
theorem dX2_sinkingUnder_0 : decode cX2_sinkingUnder 0 = .ok (.iconst 0, 1) := by decide +kernel
theorem dX2_sinkingUnder_1 : decode cX2_sinkingUnder 1 = .ok (.istore_n 2, 1) := by decide +kernel
theorem dX2_sinkingUnder_2 : decode cX2_sinkingUnder 2 = .ok (.iconst 0, 1) := by decide +kernel
theorem dX2_sinkingUnder_3 : decode cX2_sinkingUnder 3 = .ok (.istore_n 3, 1) := by decide +kernel
theorem dX2_sinkingUnder_4 : decode cX2_sinkingUnder 4 = .ok (.iload_n 3, 1) := by decide +kernel
theorem dX2_sinkingUnder_5 : decode cX2_sinkingUnder 5 = .ok (.aload_n 0, 1) := by decide +kernel
theorem dX2_sinkingUnder_6 : decode cX2_sinkingUnder 6 = .ok (.getfield 12, 3) := by decide +kernel
theorem dX2_sinkingUnder_9 : decode cX2_sinkingUnder 9 = .ok (.invokevirtual 18, 3) := by decide +kernel
theorem dX2_sinkingUnder_12 : decode cX2_sinkingUnder 12 = .ok (.if_icmp .ge 27, 3) := by decide +kernel
theorem dX2_sinkingUnder_15 : decode cX2_sinkingUnder 15 = .ok (.iload_n 2, 1) := by decide +kernel
theorem dX2_sinkingUnder_16 : decode cX2_sinkingUnder 16 = .ok (.aload_n 0, 1) := by decide +kernel
theorem dX2_sinkingUnder_17 : decode cX2_sinkingUnder 17 = .ok (.getfield 12, 3) := by decide +kernel
theorem dX2_sinkingUnder_20 : decode cX2_sinkingUnder 20 = .ok (.iload_n 3, 1) := by decide +kernel
theorem dX2_sinkingUnder_21 : decode cX2_sinkingUnder 21 = .ok (.invokevirtual 34, 3) := by decide +kernel
theorem dX2_sinkingUnder_24 : decode cX2_sinkingUnder 24 = .ok (.checkcast 37, 3) := by decide +kernel
theorem dX2_sinkingUnder_27 : decode cX2_sinkingUnder 27 = .ok (.iload_n 1, 1) := by decide +kernel
theorem dX2_sinkingUnder_28 : decode cX2_sinkingUnder 28 = .ok (.invokevirtual 47, 3) := by decide +kernel
theorem dX2_sinkingUnder_31 : decode cX2_sinkingUnder 31 = .ok (.iadd, 1) := by decide +kernel
theorem dX2_sinkingUnder_32 : decode cX2_sinkingUnder 32 = .ok (.istore_n 2, 1) := by decide +kernel
theorem dX2_sinkingUnder_33 : decode cX2_sinkingUnder 33 = .ok (.iinc 3 1, 3) := by decide +kernel
theorem dX2_sinkingUnder_36 : decode cX2_sinkingUnder 36 = .ok (.goto (-32), 3) := by decide +kernel
theorem dX2_sinkingUnder_39 : decode cX2_sinkingUnder 39 = .ok (.iload_n 2, 1) := by decide +kernel
theorem dX2_sinkingUnder_40 : decode cX2_sinkingUnder 40 = .ok (.ireturn, 1) := by decide +kernel
theorem dX2_price_0 : decode cX2_price 0 = .ok (.iconst 0, 1) := by decide +kernel
theorem dX2_price_1 : decode cX2_price 1 = .ok (.istore_n 1, 1) := by decide +kernel
theorem dX2_price_2 : decode cX2_price 2 = .ok (.iconst 0, 1) := by decide +kernel
theorem dX2_price_3 : decode cX2_price 3 = .ok (.istore_n 2, 1) := by decide +kernel
theorem dX2_price_4 : decode cX2_price 4 = .ok (.iload_n 2, 1) := by decide +kernel
theorem dX2_price_5 : decode cX2_price 5 = .ok (.aload_n 0, 1) := by decide +kernel
theorem dX2_price_6 : decode cX2_price 6 = .ok (.getfield 12, 3) := by decide +kernel
theorem dX2_price_9 : decode cX2_price 9 = .ok (.invokevirtual 18, 3) := by decide +kernel
theorem dX2_price_12 : decode cX2_price 12 = .ok (.if_icmp .ge 26, 3) := by decide +kernel
theorem dX2_price_15 : decode cX2_price 15 = .ok (.iload_n 1, 1) := by decide +kernel
theorem dX2_price_16 : decode cX2_price 16 = .ok (.aload_n 0, 1) := by decide +kernel
theorem dX2_price_17 : decode cX2_price 17 = .ok (.getfield 12, 3) := by decide +kernel
theorem dX2_price_20 : decode cX2_price 20 = .ok (.iload_n 2, 1) := by decide +kernel
theorem dX2_price_21 : decode cX2_price 21 = .ok (.invokevirtual 34, 3) := by decide +kernel
theorem dX2_price_24 : decode cX2_price 24 = .ok (.checkcast 37, 3) := by decide +kernel
theorem dX2_price_27 : decode cX2_price 27 = .ok (.invokevirtual 51, 3) := by decide +kernel
theorem dX2_price_30 : decode cX2_price 30 = .ok (.iadd, 1) := by decide +kernel
theorem dX2_price_31 : decode cX2_price 31 = .ok (.istore_n 1, 1) := by decide +kernel
theorem dX2_price_32 : decode cX2_price 32 = .ok (.iinc 2 1, 3) := by decide +kernel
theorem dX2_price_35 : decode cX2_price 35 = .ok (.goto (-31), 3) := by decide +kernel
theorem dX2_price_38 : decode cX2_price 38 = .ok (.iload_n 1, 1) := by decide +kernel
theorem dX2_price_39 : decode cX2_price 39 = .ok (.ireturn, 1) := by decide +kernel
theorem dX2_topmostKind_0 : decode cX2_topmostKind 0 = .ok (.aload_n 0, 1) := by decide +kernel
theorem dX2_topmostKind_1 : decode cX2_topmostKind 1 = .ok (.getfield 12, 3) := by decide +kernel
theorem dX2_topmostKind_4 : decode cX2_topmostKind 4 = .ok (.invokevirtual 26, 3) := by decide +kernel
theorem dX2_topmostKind_7 : decode cX2_topmostKind 7 = .ok (.ifCond .eq 8, 3) := by decide +kernel
theorem dX2_topmostKind_10 : decode cX2_topmostKind 10 = .ok (.bipush 45, 2) := by decide +kernel
theorem dX2_topmostKind_12 : decode cX2_topmostKind 12 = .ok (.goto 25, 3) := by decide +kernel
theorem dX2_topmostKind_15 : decode cX2_topmostKind 15 = .ok (.aload_n 0, 1) := by decide +kernel
theorem dX2_topmostKind_16 : decode cX2_topmostKind 16 = .ok (.getfield 12, 3) := by decide +kernel
theorem dX2_topmostKind_19 : decode cX2_topmostKind 19 = .ok (.aload_n 0, 1) := by decide +kernel
theorem dX2_topmostKind_20 : decode cX2_topmostKind 20 = .ok (.getfield 12, 3) := by decide +kernel
theorem dX2_topmostKind_23 : decode cX2_topmostKind 23 = .ok (.invokevirtual 18, 3) := by decide +kernel
theorem dX2_topmostKind_26 : decode cX2_topmostKind 26 = .ok (.iconst 1, 1) := by decide +kernel
theorem dX2_topmostKind_27 : decode cX2_topmostKind 27 = .ok (.isub, 1) := by decide +kernel
theorem dX2_topmostKind_28 : decode cX2_topmostKind 28 = .ok (.invokevirtual 34, 3) := by decide +kernel
theorem dX2_topmostKind_31 : decode cX2_topmostKind 31 = .ok (.checkcast 37, 3) := by decide +kernel
theorem dX2_topmostKind_34 : decode cX2_topmostKind 34 = .ok (.getfield 54, 3) := by decide +kernel
theorem dX2_topmostKind_37 : decode cX2_topmostKind 37 = .ok (.ireturn, 1) := by decide +kernel
theorem dX2_foamCount_0 : decode cX2_foamCount 0 = .ok (.iconst 0, 1) := by decide +kernel
theorem dX2_foamCount_1 : decode cX2_foamCount 1 = .ok (.istore_n 1, 1) := by decide +kernel
theorem dX2_foamCount_2 : decode cX2_foamCount 2 = .ok (.iconst 0, 1) := by decide +kernel
theorem dX2_foamCount_3 : decode cX2_foamCount 3 = .ok (.istore_n 2, 1) := by decide +kernel
theorem dX2_foamCount_4 : decode cX2_foamCount 4 = .ok (.iload_n 2, 1) := by decide +kernel
theorem dX2_foamCount_5 : decode cX2_foamCount 5 = .ok (.aload_n 0, 1) := by decide +kernel
theorem dX2_foamCount_6 : decode cX2_foamCount 6 = .ok (.getfield 12, 3) := by decide +kernel
theorem dX2_foamCount_9 : decode cX2_foamCount 9 = .ok (.invokevirtual 18, 3) := by decide +kernel
theorem dX2_foamCount_12 : decode cX2_foamCount 12 = .ok (.if_icmp .ge 31, 3) := by decide +kernel
theorem dX2_foamCount_15 : decode cX2_foamCount 15 = .ok (.aload_n 0, 1) := by decide +kernel
theorem dX2_foamCount_16 : decode cX2_foamCount 16 = .ok (.getfield 12, 3) := by decide +kernel
theorem dX2_foamCount_19 : decode cX2_foamCount 19 = .ok (.iload_n 2, 1) := by decide +kernel
theorem dX2_foamCount_20 : decode cX2_foamCount 20 = .ok (.invokevirtual 34, 3) := by decide +kernel
theorem dX2_foamCount_23 : decode cX2_foamCount 23 = .ok (.checkcast 37, 3) := by decide +kernel
theorem dX2_foamCount_26 : decode cX2_foamCount 26 = .ok (.getfield 54, 3) := by decide +kernel
theorem dX2_foamCount_29 : decode cX2_foamCount 29 = .ok (.bipush 102, 2) := by decide +kernel
theorem dX2_foamCount_31 : decode cX2_foamCount 31 = .ok (.if_icmp .ne 6, 3) := by decide +kernel
theorem dX2_foamCount_34 : decode cX2_foamCount 34 = .ok (.iinc 1 1, 3) := by decide +kernel
theorem dX2_foamCount_37 : decode cX2_foamCount 37 = .ok (.iinc 2 1, 3) := by decide +kernel
theorem dX2_foamCount_40 : decode cX2_foamCount 40 = .ok (.goto (-36), 3) := by decide +kernel
theorem dX2_foamCount_43 : decode cX2_foamCount 43 = .ok (.iload_n 1, 1) := by decide +kernel
theorem dX2_foamCount_44 : decode cX2_foamCount 44 = .ok (.ireturn, 1) := by decide +kernel
theorem dX2_quarrelCount_0 : decode cX2_quarrelCount 0 = .ok (.iconst 0, 1) := by decide +kernel
theorem dX2_quarrelCount_1 : decode cX2_quarrelCount 1 = .ok (.istore_n 1, 1) := by decide +kernel
theorem dX2_quarrelCount_2 : decode cX2_quarrelCount 2 = .ok (.iconst 1, 1) := by decide +kernel
theorem dX2_quarrelCount_3 : decode cX2_quarrelCount 3 = .ok (.istore_n 2, 1) := by decide +kernel
theorem dX2_quarrelCount_4 : decode cX2_quarrelCount 4 = .ok (.iload_n 2, 1) := by decide +kernel
theorem dX2_quarrelCount_5 : decode cX2_quarrelCount 5 = .ok (.aload_n 0, 1) := by decide +kernel
theorem dX2_quarrelCount_6 : decode cX2_quarrelCount 6 = .ok (.getfield 12, 3) := by decide +kernel
theorem dX2_quarrelCount_9 : decode cX2_quarrelCount 9 = .ok (.invokevirtual 18, 3) := by decide +kernel
theorem dX2_quarrelCount_12 : decode cX2_quarrelCount 12 = .ok (.if_icmp .ge 53, 3) := by decide +kernel
theorem dX2_quarrelCount_15 : decode cX2_quarrelCount 15 = .ok (.iconst 0, 1) := by decide +kernel
theorem dX2_quarrelCount_16 : decode cX2_quarrelCount 16 = .ok (.istore_n 3, 1) := by decide +kernel
theorem dX2_quarrelCount_17 : decode cX2_quarrelCount 17 = .ok (.iload_n 3, 1) := by decide +kernel
theorem dX2_quarrelCount_18 : decode cX2_quarrelCount 18 = .ok (.iload_n 2, 1) := by decide +kernel
theorem dX2_quarrelCount_19 : decode cX2_quarrelCount 19 = .ok (.if_icmp .ge 40, 3) := by decide +kernel
theorem dX2_quarrelCount_22 : decode cX2_quarrelCount 22 = .ok (.aload_n 0, 1) := by decide +kernel
theorem dX2_quarrelCount_23 : decode cX2_quarrelCount 23 = .ok (.getfield 12, 3) := by decide +kernel
theorem dX2_quarrelCount_26 : decode cX2_quarrelCount 26 = .ok (.iload_n 2, 1) := by decide +kernel
theorem dX2_quarrelCount_27 : decode cX2_quarrelCount 27 = .ok (.invokevirtual 34, 3) := by decide +kernel
theorem dX2_quarrelCount_30 : decode cX2_quarrelCount 30 = .ok (.checkcast 37, 3) := by decide +kernel
theorem dX2_quarrelCount_33 : decode cX2_quarrelCount 33 = .ok (.aload_n 0, 1) := by decide +kernel
theorem dX2_quarrelCount_34 : decode cX2_quarrelCount 34 = .ok (.getfield 12, 3) := by decide +kernel
theorem dX2_quarrelCount_37 : decode cX2_quarrelCount 37 = .ok (.iload_n 3, 1) := by decide +kernel
theorem dX2_quarrelCount_38 : decode cX2_quarrelCount 38 = .ok (.invokevirtual 34, 3) := by decide +kernel
theorem dX2_quarrelCount_41 : decode cX2_quarrelCount 41 = .ok (.checkcast 37, 3) := by decide +kernel
theorem dX2_quarrelCount_44 : decode cX2_quarrelCount 44 = .ok (.invokevirtual 58, 3) := by decide +kernel
theorem dX2_quarrelCount_47 : decode cX2_quarrelCount 47 = .ok (.ifCond .eq 6, 3) := by decide +kernel
theorem dX2_quarrelCount_50 : decode cX2_quarrelCount 50 = .ok (.iinc 1 1, 3) := by decide +kernel
theorem dX2_quarrelCount_53 : decode cX2_quarrelCount 53 = .ok (.iinc 3 1, 3) := by decide +kernel
theorem dX2_quarrelCount_56 : decode cX2_quarrelCount 56 = .ok (.goto (-39), 3) := by decide +kernel
theorem dX2_quarrelCount_59 : decode cX2_quarrelCount 59 = .ok (.iinc 2 1, 3) := by decide +kernel
theorem dX2_quarrelCount_62 : decode cX2_quarrelCount 62 = .ok (.goto (-58), 3) := by decide +kernel
theorem dX2_quarrelCount_65 : decode cX2_quarrelCount 65 = .ok (.iload_n 1, 1) := by decide +kernel
theorem dX2_quarrelCount_66 : decode cX2_quarrelCount 66 = .ok (.ireturn, 1) := by decide +kernel
theorem dX3_init_0 : decode cX3_init 0 = .ok (.aload_n 0, 1) := by decide +kernel
theorem dX3_init_1 : decode cX3_init 1 = .ok (.invokespecial 3, 3) := by decide +kernel
theorem dX3_init_4 : decode cX3_init 4 = .ok (.aload_n 0, 1) := by decide +kernel
theorem dX3_init_5 : decode cX3_init 5 = .ok (.new 9, 3) := by decide +kernel
theorem dX3_init_8 : decode cX3_init 8 = .ok (.dup, 1) := by decide +kernel
theorem dX3_init_9 : decode cX3_init 9 = .ok (.invokespecial 11, 3) := by decide +kernel
theorem dX3_init_12 : decode cX3_init 12 = .ok (.putfield 12, 3) := by decide +kernel
theorem dX3_init_15 : decode cX3_init 15 = .ok (.aload_n 0, 1) := by decide +kernel
theorem dX3_init_16 : decode cX3_init 16 = .ok (.new 9, 3) := by decide +kernel
theorem dX3_init_19 : decode cX3_init 19 = .ok (.dup, 1) := by decide +kernel
theorem dX3_init_20 : decode cX3_init 20 = .ok (.invokespecial 11, 3) := by decide +kernel
theorem dX3_init_23 : decode cX3_init 23 = .ok (.putfield 18, 3) := by decide +kernel
theorem dX3_init_26 : decode cX3_init 26 = .ok (.aload_n 0, 1) := by decide +kernel
theorem dX3_init_27 : decode cX3_init 27 = .ok (.bipush 6, 2) := by decide +kernel
theorem dX3_init_29 : decode cX3_init 29 = .ok (.newarray .int, 2) := by decide +kernel
theorem dX3_init_31 : decode cX3_init 31 = .ok (.putfield 21, 3) := by decide +kernel
theorem dX3_init_34 : decode cX3_init 34 = .ok (.aload_n 0, 1) := by decide +kernel
theorem dX3_init_35 : decode cX3_init 35 = .ok (.bipush 6, 2) := by decide +kernel
theorem dX3_init_37 : decode cX3_init 37 = .ok (.newarray .int, 2) := by decide +kernel
theorem dX3_init_39 : decode cX3_init 39 = .ok (.putfield 25, 3) := by decide +kernel
theorem dX3_init_42 : decode cX3_init 42 = .ok (.aload_n 0, 1) := by decide +kernel
theorem dX3_init_43 : decode cX3_init 43 = .ok (.iload_n 1, 1) := by decide +kernel
theorem dX3_init_44 : decode cX3_init 44 = .ok (.putfield 28, 3) := by decide +kernel
theorem dX3_init_47 : decode cX3_init 47 = .ok (.aload_n 0, 1) := by decide +kernel
theorem dX3_init_48 : decode cX3_init 48 = .ok (.iload_n 2, 1) := by decide +kernel
theorem dX3_init_49 : decode cX3_init 49 = .ok (.putfield 32, 3) := by decide +kernel
theorem dX3_init_52 : decode cX3_init 52 = .ok (.aload_n 0, 1) := by decide +kernel
theorem dX3_init_53 : decode cX3_init 53 = .ok (.invokevirtual 35, 3) := by decide +kernel
theorem dX3_init_56 : decode cX3_init 56 = .ok (.return_, 1) := by decide +kernel
theorem dX3_cellCount_0 : decode cX3_cellCount 0 = .ok (.aload_n 0, 1) := by decide +kernel
theorem dX3_cellCount_1 : decode cX3_cellCount 1 = .ok (.getfield 28, 3) := by decide +kernel
theorem dX3_cellCount_4 : decode cX3_cellCount 4 = .ok (.aload_n 0, 1) := by decide +kernel
theorem dX3_cellCount_5 : decode cX3_cellCount 5 = .ok (.getfield 32, 3) := by decide +kernel
theorem dX3_cellCount_8 : decode cX3_cellCount 8 = .ok (.imul, 1) := by decide +kernel
theorem dX3_cellCount_9 : decode cX3_cellCount 9 = .ok (.ireturn, 1) := by decide +kernel
theorem dX3_cellAt_0 : decode cX3_cellAt 0 = .ok (.aload_n 0, 1) := by decide +kernel
theorem dX3_cellAt_1 : decode cX3_cellAt 1 = .ok (.getfield 32, 3) := by decide +kernel
theorem dX3_cellAt_4 : decode cX3_cellAt 4 = .ok (.iconst 1, 1) := by decide +kernel
theorem dX3_cellAt_5 : decode cX3_cellAt 5 = .ok (.if_icmp .ge 7, 3) := by decide +kernel
theorem dX3_cellAt_8 : decode cX3_cellAt 8 = .ok (.iconst 0, 1) := by decide +kernel
theorem dX3_cellAt_9 : decode cX3_cellAt 9 = .ok (.goto 19, 3) := by decide +kernel
theorem dX3_cellAt_12 : decode cX3_cellAt 12 = .ok (.iload_n 1, 1) := by decide +kernel
theorem dX3_cellAt_13 : decode cX3_cellAt 13 = .ok (.aload_n 0, 1) := by decide +kernel
theorem dX3_cellAt_14 : decode cX3_cellAt 14 = .ok (.getfield 32, 3) := by decide +kernel
theorem dX3_cellAt_17 : decode cX3_cellAt 17 = .ok (.idiv, 1) := by decide +kernel
theorem dX3_cellAt_18 : decode cX3_cellAt 18 = .ok (.bipush 10, 2) := by decide +kernel
theorem dX3_cellAt_20 : decode cX3_cellAt 20 = .ok (.imul, 1) := by decide +kernel
theorem dX3_cellAt_21 : decode cX3_cellAt 21 = .ok (.iload_n 1, 1) := by decide +kernel
theorem dX3_cellAt_22 : decode cX3_cellAt 22 = .ok (.aload_n 0, 1) := by decide +kernel
theorem dX3_cellAt_23 : decode cX3_cellAt 23 = .ok (.getfield 32, 3) := by decide +kernel
theorem dX3_cellAt_26 : decode cX3_cellAt 26 = .ok (.irem, 1) := by decide +kernel
theorem dX3_cellAt_27 : decode cX3_cellAt 27 = .ok (.iadd, 1) := by decide +kernel
theorem dX3_cellAt_28 : decode cX3_cellAt 28 = .ok (.ireturn, 1) := by decide +kernel
theorem dX3_putSprings_0 : decode cX3_putSprings 0 = .ok (.iconst 0, 1) := by decide +kernel
theorem dX3_putSprings_1 : decode cX3_putSprings 1 = .ok (.istore_n 3, 1) := by decide +kernel
theorem dX3_putSprings_2 : decode cX3_putSprings 2 = .ok (.iload_n 3, 1) := by decide +kernel
theorem dX3_putSprings_3 : decode cX3_putSprings 3 = .ok (.aload_n 0, 1) := by decide +kernel
theorem dX3_putSprings_4 : decode cX3_putSprings 4 = .ok (.invokevirtual 38, 3) := by decide +kernel
theorem dX3_putSprings_7 : decode cX3_putSprings 7 = .ok (.if_icmp .ge 20, 3) := by decide +kernel
theorem dX3_putSprings_10 : decode cX3_putSprings 10 = .ok (.aload_n 0, 1) := by decide +kernel
theorem dX3_putSprings_11 : decode cX3_putSprings 11 = .ok (.aload_n 0, 1) := by decide +kernel
theorem dX3_putSprings_12 : decode cX3_putSprings 12 = .ok (.iload_n 3, 1) := by decide +kernel
theorem dX3_putSprings_13 : decode cX3_putSprings 13 = .ok (.invokevirtual 42, 3) := by decide +kernel
theorem dX3_putSprings_16 : decode cX3_putSprings 16 = .ok (.iload_n 1, 1) := by decide +kernel
theorem dX3_putSprings_17 : decode cX3_putSprings 17 = .ok (.iload_n 2, 1) := by decide +kernel
theorem dX3_putSprings_18 : decode cX3_putSprings 18 = .ok (.invokevirtual 46, 3) := by decide +kernel
theorem dX3_putSprings_21 : decode cX3_putSprings 21 = .ok (.iinc 3 1, 3) := by decide +kernel
theorem dX3_putSprings_24 : decode cX3_putSprings 24 = .ok (.goto (-22), 3) := by decide +kernel
theorem dX3_putSprings_27 : decode cX3_putSprings 27 = .ok (.return_, 1) := by decide +kernel
theorem dX3_putSpring_0 : decode cX3_putSpring 0 = .ok (.aload_n 0, 1) := by decide +kernel
theorem dX3_putSpring_1 : decode cX3_putSpring 1 = .ok (.getfield 12, 3) := by decide +kernel
theorem dX3_putSpring_4 : decode cX3_putSpring 4 = .ok (.iload_n 1, 1) := by decide +kernel
theorem dX3_putSpring_5 : decode cX3_putSpring 5 = .ok (.iload_n 2, 1) := by decide +kernel
theorem dX3_putSpring_6 : decode cX3_putSpring 6 = .ok (.invokevirtual 50, 3) := by decide +kernel
theorem dX3_putSpring_9 : decode cX3_putSpring 9 = .ok (.aload_n 0, 1) := by decide +kernel
theorem dX3_putSpring_10 : decode cX3_putSpring 10 = .ok (.getfield 18, 3) := by decide +kernel
theorem dX3_putSpring_13 : decode cX3_putSpring 13 = .ok (.iload_n 1, 1) := by decide +kernel
theorem dX3_putSpring_14 : decode cX3_putSpring 14 = .ok (.iload_n 3, 1) := by decide +kernel
theorem dX3_putSpring_15 : decode cX3_putSpring 15 = .ok (.invokevirtual 50, 3) := by decide +kernel
theorem dX3_putSpring_18 : decode cX3_putSpring 18 = .ok (.return_, 1) := by decide +kernel
theorem dX3_takeSprings_0 : decode cX3_takeSprings 0 = .ok (.aload_n 0, 1) := by decide +kernel
theorem dX3_takeSprings_1 : decode cX3_takeSprings 1 = .ok (.getfield 12, 3) := by decide +kernel
theorem dX3_takeSprings_4 : decode cX3_takeSprings 4 = .ok (.invokevirtual 54, 3) := by decide +kernel
theorem dX3_takeSprings_7 : decode cX3_takeSprings 7 = .ok (.aload_n 0, 1) := by decide +kernel
theorem dX3_takeSprings_8 : decode cX3_takeSprings 8 = .ok (.getfield 18, 3) := by decide +kernel
theorem dX3_takeSprings_11 : decode cX3_takeSprings 11 = .ok (.invokevirtual 54, 3) := by decide +kernel
theorem dX3_takeSprings_14 : decode cX3_takeSprings 14 = .ok (.return_, 1) := by decide +kernel
theorem dX3_loosenTies_0 : decode cX3_loosenTies 0 = .ok (.aload_n 0, 1) := by decide +kernel
theorem dX3_loosenTies_1 : decode cX3_loosenTies 1 = .ok (.getfield 21, 3) := by decide +kernel
theorem dX3_loosenTies_4 : decode cX3_loosenTies 4 = .ok (.bipush 99, 2) := by decide +kernel
theorem dX3_loosenTies_6 : decode cX3_loosenTies 6 = .ok (.invokestatic 57, 3) := by decide +kernel
theorem dX3_loosenTies_9 : decode cX3_loosenTies 9 = .ok (.aload_n 0, 1) := by decide +kernel
theorem dX3_loosenTies_10 : decode cX3_loosenTies 10 = .ok (.getfield 25, 3) := by decide +kernel
theorem dX3_loosenTies_13 : decode cX3_loosenTies 13 = .ok (.bipush 99, 2) := by decide +kernel
theorem dX3_loosenTies_15 : decode cX3_loosenTies 15 = .ok (.invokestatic 57, 3) := by decide +kernel
theorem dX3_loosenTies_18 : decode cX3_loosenTies 18 = .ok (.return_, 1) := by decide +kernel
theorem dX3_setTie_0 : decode cX3_setTie 0 = .ok (.iload_n 1, 1) := by decide +kernel
theorem dX3_setTie_1 : decode cX3_setTie 1 = .ok (.ifCond .eq 10, 3) := by decide +kernel
theorem dX3_setTie_4 : decode cX3_setTie 4 = .ok (.aload_n 0, 1) := by decide +kernel
theorem dX3_setTie_5 : decode cX3_setTie 5 = .ok (.getfield 21, 3) := by decide +kernel
theorem dX3_setTie_8 : decode cX3_setTie 8 = .ok (.goto 7, 3) := by decide +kernel
theorem dX3_setTie_11 : decode cX3_setTie 11 = .ok (.aload_n 0, 1) := by decide +kernel
theorem dX3_setTie_12 : decode cX3_setTie 12 = .ok (.getfield 25, 3) := by decide +kernel
theorem dX3_setTie_15 : decode cX3_setTie 15 = .ok (.astore 4, 2) := by decide +kernel
theorem dX3_setTie_17 : decode cX3_setTie 17 = .ok (.iload_n 2, 1) := by decide +kernel
theorem dX3_setTie_18 : decode cX3_setTie 18 = .ok (.ifCond .lt 15, 3) := by decide +kernel
theorem dX3_setTie_21 : decode cX3_setTie 21 = .ok (.iload_n 2, 1) := by decide +kernel
theorem dX3_setTie_22 : decode cX3_setTie 22 = .ok (.aload 4, 2) := by decide +kernel
theorem dX3_setTie_24 : decode cX3_setTie 24 = .ok (.arraylength, 1) := by decide +kernel
theorem dX3_setTie_25 : decode cX3_setTie 25 = .ok (.if_icmp .ge 8, 3) := by decide +kernel
theorem dX3_setTie_28 : decode cX3_setTie 28 = .ok (.aload 4, 2) := by decide +kernel
theorem dX3_setTie_30 : decode cX3_setTie 30 = .ok (.iload_n 2, 1) := by decide +kernel
theorem dX3_setTie_31 : decode cX3_setTie 31 = .ok (.iload_n 3, 1) := by decide +kernel
theorem dX3_setTie_32 : decode cX3_setTie 32 = .ok (.iastore, 1) := by decide +kernel
theorem dX3_setTie_33 : decode cX3_setTie 33 = .ok (.return_, 1) := by decide +kernel
theorem dX3_tieAt_0 : decode cX3_tieAt 0 = .ok (.iload_n 1, 1) := by decide +kernel
theorem dX3_tieAt_1 : decode cX3_tieAt 1 = .ok (.ifCond .lt 15, 3) := by decide +kernel
theorem dX3_tieAt_4 : decode cX3_tieAt 4 = .ok (.iload_n 1, 1) := by decide +kernel
theorem dX3_tieAt_5 : decode cX3_tieAt 5 = .ok (.aload_n 0, 1) := by decide +kernel
theorem dX3_tieAt_6 : decode cX3_tieAt 6 = .ok (.arraylength, 1) := by decide +kernel
theorem dX3_tieAt_7 : decode cX3_tieAt 7 = .ok (.if_icmp .ge 9, 3) := by decide +kernel
theorem dX3_tieAt_10 : decode cX3_tieAt 10 = .ok (.aload_n 0, 1) := by decide +kernel
theorem dX3_tieAt_11 : decode cX3_tieAt 11 = .ok (.iload_n 1, 1) := by decide +kernel
theorem dX3_tieAt_12 : decode cX3_tieAt 12 = .ok (.iaload, 1) := by decide +kernel
theorem dX3_tieAt_13 : decode cX3_tieAt 13 = .ok (.goto 5, 3) := by decide +kernel
theorem dX3_tieAt_16 : decode cX3_tieAt 16 = .ok (.bipush 99, 2) := by decide +kernel
theorem dX3_tieAt_18 : decode cX3_tieAt 18 = .ok (.ireturn, 1) := by decide +kernel
theorem dX3_heightAt_0 : decode cX3_heightAt 0 = .ok (.aload_n 0, 1) := by decide +kernel
theorem dX3_heightAt_1 : decode cX3_heightAt 1 = .ok (.getfield 21, 3) := by decide +kernel
theorem dX3_heightAt_4 : decode cX3_heightAt 4 = .ok (.iload_n 1, 1) := by decide +kernel
theorem dX3_heightAt_5 : decode cX3_heightAt 5 = .ok (.bipush 10, 2) := by decide +kernel
theorem dX3_heightAt_7 : decode cX3_heightAt 7 = .ok (.idiv, 1) := by decide +kernel
theorem dX3_heightAt_8 : decode cX3_heightAt 8 = .ok (.invokestatic 63, 3) := by decide +kernel
theorem dX3_heightAt_11 : decode cX3_heightAt 11 = .ok (.aload_n 0, 1) := by decide +kernel
theorem dX3_heightAt_12 : decode cX3_heightAt 12 = .ok (.getfield 25, 3) := by decide +kernel
theorem dX3_heightAt_15 : decode cX3_heightAt 15 = .ok (.iload_n 1, 1) := by decide +kernel
theorem dX3_heightAt_16 : decode cX3_heightAt 16 = .ok (.bipush 10, 2) := by decide +kernel
theorem dX3_heightAt_18 : decode cX3_heightAt 18 = .ok (.irem, 1) := by decide +kernel
theorem dX3_heightAt_19 : decode cX3_heightAt 19 = .ok (.invokestatic 63, 3) := by decide +kernel
theorem dX3_heightAt_22 : decode cX3_heightAt 22 = .ok (.invokestatic 67, 3) := by decide +kernel
theorem dX3_heightAt_25 : decode cX3_heightAt 25 = .ok (.istore_n 2, 1) := by decide +kernel
theorem dX3_heightAt_26 : decode cX3_heightAt 26 = .ok (.aload_n 0, 1) := by decide +kernel
theorem dX3_heightAt_27 : decode cX3_heightAt 27 = .ok (.getfield 12, 3) := by decide +kernel
theorem dX3_heightAt_30 : decode cX3_heightAt 30 = .ok (.iload_n 1, 1) := by decide +kernel
theorem dX3_heightAt_31 : decode cX3_heightAt 31 = .ok (.invokevirtual 73, 3) := by decide +kernel
theorem dX3_heightAt_34 : decode cX3_heightAt 34 = .ok (.iload_n 2, 1) := by decide +kernel
theorem dX3_heightAt_35 : decode cX3_heightAt 35 = .ok (.invokestatic 67, 3) := by decide +kernel
theorem dX3_heightAt_38 : decode cX3_heightAt 38 = .ok (.ireturn, 1) := by decide +kernel
theorem dX3_heightInAll_0 : decode cX3_heightInAll 0 = .ok (.iconst 0, 1) := by decide +kernel
theorem dX3_heightInAll_1 : decode cX3_heightInAll 1 = .ok (.istore_n 1, 1) := by decide +kernel
theorem dX3_heightInAll_2 : decode cX3_heightInAll 2 = .ok (.iconst 0, 1) := by decide +kernel
theorem dX3_heightInAll_3 : decode cX3_heightInAll 3 = .ok (.istore_n 2, 1) := by decide +kernel
theorem dX3_heightInAll_4 : decode cX3_heightInAll 4 = .ok (.iload_n 2, 1) := by decide +kernel
theorem dX3_heightInAll_5 : decode cX3_heightInAll 5 = .ok (.aload_n 0, 1) := by decide +kernel
theorem dX3_heightInAll_6 : decode cX3_heightInAll 6 = .ok (.invokevirtual 38, 3) := by decide +kernel
theorem dX3_heightInAll_9 : decode cX3_heightInAll 9 = .ok (.if_icmp .ge 21, 3) := by decide +kernel
theorem dX3_heightInAll_12 : decode cX3_heightInAll 12 = .ok (.iload_n 1, 1) := by decide +kernel
theorem dX3_heightInAll_13 : decode cX3_heightInAll 13 = .ok (.aload_n 0, 1) := by decide +kernel
theorem dX3_heightInAll_14 : decode cX3_heightInAll 14 = .ok (.aload_n 0, 1) := by decide +kernel
theorem dX3_heightInAll_15 : decode cX3_heightInAll 15 = .ok (.iload_n 2, 1) := by decide +kernel
theorem dX3_heightInAll_16 : decode cX3_heightInAll 16 = .ok (.invokevirtual 42, 3) := by decide +kernel
theorem dX3_heightInAll_19 : decode cX3_heightInAll 19 = .ok (.invokevirtual 76, 3) := by decide +kernel
theorem dX3_heightInAll_22 : decode cX3_heightInAll 22 = .ok (.iadd, 1) := by decide +kernel
theorem dX3_heightInAll_23 : decode cX3_heightInAll 23 = .ok (.istore_n 1, 1) := by decide +kernel
theorem dX3_heightInAll_24 : decode cX3_heightInAll 24 = .ok (.iinc 2 1, 3) := by decide +kernel
theorem dX3_heightInAll_27 : decode cX3_heightInAll 27 = .ok (.goto (-23), 3) := by decide +kernel
theorem dX3_heightInAll_30 : decode cX3_heightInAll 30 = .ok (.iload_n 1, 1) := by decide +kernel
theorem dX3_heightInAll_31 : decode cX3_heightInAll 31 = .ok (.ireturn, 1) := by decide +kernel
theorem dX3_sinkingUnder_0 : decode cX3_sinkingUnder 0 = .ok (.aload_n 0, 1) := by decide +kernel
theorem dX3_sinkingUnder_1 : decode cX3_sinkingUnder 1 = .ok (.iload_n 2, 1) := by decide +kernel
theorem dX3_sinkingUnder_2 : decode cX3_sinkingUnder 2 = .ok (.invokevirtual 76, 3) := by decide +kernel
theorem dX3_sinkingUnder_5 : decode cX3_sinkingUnder 5 = .ok (.bipush 10, 2) := by decide +kernel
theorem dX3_sinkingUnder_7 : decode cX3_sinkingUnder 7 = .ok (.iload_n 1, 1) := by decide +kernel
theorem dX3_sinkingUnder_8 : decode cX3_sinkingUnder 8 = .ok (.imul, 1) := by decide +kernel
theorem dX3_sinkingUnder_9 : decode cX3_sinkingUnder 9 = .ok (.i2l, 1) := by decide +kernel
theorem dX3_sinkingUnder_10 : decode cX3_sinkingUnder 10 = .ok (.aload_n 0, 1) := by decide +kernel
theorem dX3_sinkingUnder_11 : decode cX3_sinkingUnder 11 = .ok (.getfield 18, 3) := by decide +kernel
theorem dX3_sinkingUnder_14 : decode cX3_sinkingUnder 14 = .ok (.iload_n 2, 1) := by decide +kernel
theorem dX3_sinkingUnder_15 : decode cX3_sinkingUnder 15 = .ok (.invokevirtual 73, 3) := by decide +kernel
theorem dX3_sinkingUnder_18 : decode cX3_sinkingUnder 18 = .ok (.aload_n 0, 1) := by decide +kernel
theorem dX3_sinkingUnder_19 : decode cX3_sinkingUnder 19 = .ok (.getfield 79, 3) := by decide +kernel
theorem dX3_sinkingUnder_22 : decode cX3_sinkingUnder 22 = .ok (.iadd, 1) := by decide +kernel
theorem dX3_sinkingUnder_23 : decode cX3_sinkingUnder 23 = .ok (.i2l, 1) := by decide +kernel
theorem dX3_sinkingUnder_24 : decode cX3_sinkingUnder 24 = .ok (.invokestatic 82, 3) := by decide +kernel
theorem dX3_sinkingUnder_27 : decode cX3_sinkingUnder 27 = .ok (.invokestatic 67, 3) := by decide +kernel
theorem dX3_sinkingUnder_30 : decode cX3_sinkingUnder 30 = .ok (.ireturn, 1) := by decide +kernel
theorem dX3_pulledTies_0 : decode cX3_pulledTies 0 = .ok (.aload_n 0, 1) := by decide +kernel
theorem dX3_pulledTies_1 : decode cX3_pulledTies 1 = .ok (.getfield 21, 3) := by decide +kernel
theorem dX3_pulledTies_4 : decode cX3_pulledTies 4 = .ok (.invokestatic 86, 3) := by decide +kernel
theorem dX3_pulledTies_7 : decode cX3_pulledTies 7 = .ok (.aload_n 0, 1) := by decide +kernel
theorem dX3_pulledTies_8 : decode cX3_pulledTies 8 = .ok (.getfield 25, 3) := by decide +kernel
theorem dX3_pulledTies_11 : decode cX3_pulledTies 11 = .ok (.invokestatic 86, 3) := by decide +kernel
theorem dX3_pulledTies_14 : decode cX3_pulledTies 14 = .ok (.iadd, 1) := by decide +kernel
theorem dX3_pulledTies_15 : decode cX3_pulledTies 15 = .ok (.ireturn, 1) := by decide +kernel
theorem dX3_pulledIn_0 : decode cX3_pulledIn 0 = .ok (.iconst 0, 1) := by decide +kernel
theorem dX3_pulledIn_1 : decode cX3_pulledIn 1 = .ok (.istore_n 1, 1) := by decide +kernel
theorem dX3_pulledIn_2 : decode cX3_pulledIn 2 = .ok (.iconst 0, 1) := by decide +kernel
theorem dX3_pulledIn_3 : decode cX3_pulledIn 3 = .ok (.istore_n 2, 1) := by decide +kernel
theorem dX3_pulledIn_4 : decode cX3_pulledIn 4 = .ok (.iload_n 2, 1) := by decide +kernel
theorem dX3_pulledIn_5 : decode cX3_pulledIn 5 = .ok (.aload_n 0, 1) := by decide +kernel
theorem dX3_pulledIn_6 : decode cX3_pulledIn 6 = .ok (.arraylength, 1) := by decide +kernel
theorem dX3_pulledIn_7 : decode cX3_pulledIn 7 = .ok (.if_icmp .ge 20, 3) := by decide +kernel
theorem dX3_pulledIn_10 : decode cX3_pulledIn 10 = .ok (.aload_n 0, 1) := by decide +kernel
theorem dX3_pulledIn_11 : decode cX3_pulledIn 11 = .ok (.iload_n 2, 1) := by decide +kernel
theorem dX3_pulledIn_12 : decode cX3_pulledIn 12 = .ok (.iaload, 1) := by decide +kernel
theorem dX3_pulledIn_13 : decode cX3_pulledIn 13 = .ok (.bipush 99, 2) := by decide +kernel
theorem dX3_pulledIn_15 : decode cX3_pulledIn 15 = .ok (.if_icmp .ge 6, 3) := by decide +kernel
theorem dX3_pulledIn_18 : decode cX3_pulledIn 18 = .ok (.iinc 1 1, 3) := by decide +kernel
theorem dX3_pulledIn_21 : decode cX3_pulledIn 21 = .ok (.iinc 2 1, 3) := by decide +kernel
theorem dX3_pulledIn_24 : decode cX3_pulledIn 24 = .ok (.goto (-20), 3) := by decide +kernel
theorem dX3_pulledIn_27 : decode cX3_pulledIn 27 = .ok (.iload_n 1, 1) := by decide +kernel
theorem dX3_pulledIn_28 : decode cX3_pulledIn 28 = .ok (.ireturn, 1) := by decide +kernel
theorem dX4_init_0 : decode cX4_init 0 = .ok (.aload_n 0, 1) := by decide +kernel
theorem dX4_init_1 : decode cX4_init 1 = .ok (.invokespecial 3, 3) := by decide +kernel
theorem dX4_init_4 : decode cX4_init 4 = .ok (.aload_n 0, 1) := by decide +kernel
theorem dX4_init_5 : decode cX4_init 5 = .ok (.bipush 56, 2) := by decide +kernel
theorem dX4_init_7 : decode cX4_init 7 = .ok (.newarray .int, 2) := by decide +kernel
theorem dX4_init_9 : decode cX4_init 9 = .ok (.putfield 9, 3) := by decide +kernel
theorem dX4_init_12 : decode cX4_init 12 = .ok (.return_, 1) := by decide +kernel
theorem dX4_at_0 : decode cX4_at 0 = .ok (.iload_n 1, 1) := by decide +kernel
theorem dX4_at_1 : decode cX4_at 1 = .ok (.ifCond .lt 21, 3) := by decide +kernel
theorem dX4_at_4 : decode cX4_at 4 = .ok (.iload_n 1, 1) := by decide +kernel
theorem dX4_at_5 : decode cX4_at 5 = .ok (.aload_n 0, 1) := by decide +kernel
theorem dX4_at_6 : decode cX4_at 6 = .ok (.getfield 9, 3) := by decide +kernel
theorem dX4_at_9 : decode cX4_at 9 = .ok (.arraylength, 1) := by decide +kernel
theorem dX4_at_10 : decode cX4_at 10 = .ok (.if_icmp .ge 12, 3) := by decide +kernel
theorem dX4_at_13 : decode cX4_at 13 = .ok (.aload_n 0, 1) := by decide +kernel
theorem dX4_at_14 : decode cX4_at 14 = .ok (.getfield 9, 3) := by decide +kernel
theorem dX4_at_17 : decode cX4_at 17 = .ok (.iload_n 1, 1) := by decide +kernel
theorem dX4_at_18 : decode cX4_at 18 = .ok (.iaload, 1) := by decide +kernel
theorem dX4_at_19 : decode cX4_at 19 = .ok (.goto 4, 3) := by decide +kernel
theorem dX4_at_22 : decode cX4_at 22 = .ok (.iconst 0, 1) := by decide +kernel
theorem dX4_at_23 : decode cX4_at 23 = .ok (.ireturn, 1) := by decide +kernel
theorem dX4_put_0 : decode cX4_put 0 = .ok (.iload_n 1, 1) := by decide +kernel
theorem dX4_put_1 : decode cX4_put 1 = .ok (.ifCond .lt 19, 3) := by decide +kernel
theorem dX4_put_4 : decode cX4_put 4 = .ok (.iload_n 1, 1) := by decide +kernel
theorem dX4_put_5 : decode cX4_put 5 = .ok (.aload_n 0, 1) := by decide +kernel
theorem dX4_put_6 : decode cX4_put 6 = .ok (.getfield 9, 3) := by decide +kernel
theorem dX4_put_9 : decode cX4_put 9 = .ok (.arraylength, 1) := by decide +kernel
theorem dX4_put_10 : decode cX4_put 10 = .ok (.if_icmp .ge 10, 3) := by decide +kernel
theorem dX4_put_13 : decode cX4_put 13 = .ok (.aload_n 0, 1) := by decide +kernel
theorem dX4_put_14 : decode cX4_put 14 = .ok (.getfield 9, 3) := by decide +kernel
theorem dX4_put_17 : decode cX4_put 17 = .ok (.iload_n 1, 1) := by decide +kernel
theorem dX4_put_18 : decode cX4_put 18 = .ok (.iload_n 2, 1) := by decide +kernel
theorem dX4_put_19 : decode cX4_put 19 = .ok (.iastore, 1) := by decide +kernel
theorem dX4_put_20 : decode cX4_put 20 = .ok (.return_, 1) := by decide +kernel
theorem dX4_clear_0 : decode cX4_clear 0 = .ok (.aload_n 0, 1) := by decide +kernel
theorem dX4_clear_1 : decode cX4_clear 1 = .ok (.getfield 9, 3) := by decide +kernel
theorem dX4_clear_4 : decode cX4_clear 4 = .ok (.iconst 0, 1) := by decide +kernel
theorem dX4_clear_5 : decode cX4_clear 5 = .ok (.invokestatic 15, 3) := by decide +kernel
theorem dX4_clear_8 : decode cX4_clear 8 = .ok (.return_, 1) := by decide +kernel
theorem dX5_init_0 : decode cX5_init 0 = .ok (.aload_n 0, 1) := by decide +kernel
theorem dX5_init_1 : decode cX5_init 1 = .ok (.invokespecial 3, 3) := by decide +kernel
theorem dX5_init_4 : decode cX5_init 4 = .ok (.aload_n 0, 1) := by decide +kernel
theorem dX5_init_5 : decode cX5_init 5 = .ok (.bipush 45, 2) := by decide +kernel
theorem dX5_init_7 : decode cX5_init 7 = .ok (.putfield 9, 3) := by decide +kernel
theorem dX5_init_10 : decode cX5_init 10 = .ok (.aload_n 0, 1) := by decide +kernel
theorem dX5_init_11 : decode cX5_init 11 = .ok (.iconst 4, 1) := by decide +kernel
theorem dX5_init_12 : decode cX5_init 12 = .ok (.putfield 15, 3) := by decide +kernel
theorem dX5_init_15 : decode cX5_init 15 = .ok (.return_, 1) := by decide +kernel
theorem dX6_init_0 : decode cX6_init 0 = .ok (.aload_n 0, 1) := by decide +kernel
theorem dX6_init_1 : decode cX6_init 1 = .ok (.invokespecial 3, 3) := by decide +kernel
theorem dX6_init_4 : decode cX6_init 4 = .ok (.aload_n 0, 1) := by decide +kernel
theorem dX6_init_5 : decode cX6_init 5 = .ok (.iload_n 1, 1) := by decide +kernel
theorem dX6_init_6 : decode cX6_init 6 = .ok (.putfield 9, 3) := by decide +kernel
theorem dX6_init_9 : decode cX6_init 9 = .ok (.aload_n 0, 1) := by decide +kernel
theorem dX6_init_10 : decode cX6_init 10 = .ok (.iload_n 2, 1) := by decide +kernel
theorem dX6_init_11 : decode cX6_init 11 = .ok (.putfield 15, 3) := by decide +kernel
theorem dX6_init_14 : decode cX6_init 14 = .ok (.aload_n 0, 1) := by decide +kernel
theorem dX6_init_15 : decode cX6_init 15 = .ok (.iload_n 3, 1) := by decide +kernel
theorem dX6_init_16 : decode cX6_init 16 = .ok (.putfield 19, 3) := by decide +kernel
theorem dX6_init_19 : decode cX6_init 19 = .ok (.aload_n 0, 1) := by decide +kernel
theorem dX6_init_20 : decode cX6_init 20 = .ok (.iload_n 2, 1) := by decide +kernel
theorem dX6_init_21 : decode cX6_init 21 = .ok (.putfield 22, 3) := by decide +kernel
theorem dX6_init_24 : decode cX6_init 24 = .ok (.return_, 1) := by decide +kernel
theorem dX6_settle_0 : decode cX6_settle 0 = .ok (.aload_n 0, 1) := by decide +kernel
theorem dX6_settle_1 : decode cX6_settle 1 = .ok (.dup, 1) := by decide +kernel
theorem dX6_settle_2 : decode cX6_settle 2 = .ok (.getfield 25, 3) := by decide +kernel
theorem dX6_settle_5 : decode cX6_settle 5 = .ok (.iload_n 1, 1) := by decide +kernel
theorem dX6_settle_6 : decode cX6_settle 6 = .ok (.i2l, 1) := by decide +kernel
theorem dX6_settle_7 : decode cX6_settle 7 = .ok (.ladd, 1) := by decide +kernel
theorem dX6_settle_8 : decode cX6_settle 8 = .ok (.putfield 25, 3) := by decide +kernel
theorem dX6_settle_11 : decode cX6_settle 11 = .ok (.aload_n 0, 1) := by decide +kernel
theorem dX6_settle_12 : decode cX6_settle 12 = .ok (.getfield 19, 3) := by decide +kernel
theorem dX6_settle_15 : decode cX6_settle 15 = .ok (.i2l, 1) := by decide +kernel
theorem dX6_settle_16 : decode cX6_settle 16 = .ok (.aload_n 0, 1) := by decide +kernel
theorem dX6_settle_17 : decode cX6_settle 17 = .ok (.getfield 9, 3) := by decide +kernel
theorem dX6_settle_20 : decode cX6_settle 20 = .ok (.bipush 104, 2) := by decide +kernel
theorem dX6_settle_22 : decode cX6_settle 22 = .ok (.if_icmp .ne 9, 3) := by decide +kernel
theorem dX6_settle_25 : decode cX6_settle 25 = .ok (.sipush 1000, 3) := by decide +kernel
theorem dX6_settle_28 : decode cX6_settle 28 = .ok (.goto 20, 3) := by decide +kernel
theorem dX6_settle_31 : decode cX6_settle 31 = .ok (.aload_n 0, 1) := by decide +kernel
theorem dX6_settle_32 : decode cX6_settle 32 = .ok (.getfield 9, 3) := by decide +kernel
theorem dX6_settle_35 : decode cX6_settle 35 = .ok (.bipush 102, 2) := by decide +kernel
theorem dX6_settle_37 : decode cX6_settle 37 = .ok (.if_icmp .ne 9, 3) := by decide +kernel
theorem dX6_settle_40 : decode cX6_settle 40 = .ok (.sipush 400, 3) := by decide +kernel
theorem dX6_settle_43 : decode cX6_settle 43 = .ok (.goto 5, 3) := by decide +kernel
theorem dX6_settle_46 : decode cX6_settle 46 = .ok (.bipush 100, 2) := by decide +kernel
theorem dX6_settle_48 : decode cX6_settle 48 = .ok (.i2l, 1) := by decide +kernel
theorem dX6_settle_49 : decode cX6_settle 49 = .ok (.lmul, 1) := by decide +kernel
theorem dX6_settle_50 : decode cX6_settle 50 = .ok (.lstore_n 2, 1) := by decide +kernel
theorem dX6_settle_51 : decode cX6_settle 51 = .ok (.aload_n 0, 1) := by decide +kernel
theorem dX6_settle_52 : decode cX6_settle 52 = .ok (.aload_n 0, 1) := by decide +kernel
theorem dX6_settle_53 : decode cX6_settle 53 = .ok (.getfield 15, 3) := by decide +kernel
theorem dX6_settle_56 : decode cX6_settle 56 = .ok (.aload_n 0, 1) := by decide +kernel
theorem dX6_settle_57 : decode cX6_settle 57 = .ok (.getfield 15, 3) := by decide +kernel
theorem dX6_settle_60 : decode cX6_settle 60 = .ok (.i2l, 1) := by decide +kernel
theorem dX6_settle_61 : decode cX6_settle 61 = .ok (.aload_n 0, 1) := by decide +kernel
theorem dX6_settle_62 : decode cX6_settle 62 = .ok (.getfield 25, 3) := by decide +kernel
theorem dX6_settle_65 : decode cX6_settle 65 = .ok (.lmul, 1) := by decide +kernel
theorem dX6_settle_66 : decode cX6_settle 66 = .ok (.ldc2_w 29, 3) := by decide +kernel
theorem dX6_settle_69 : decode cX6_settle 69 = .ok (.aload_n 0, 1) := by decide +kernel
theorem dX6_settle_70 : decode cX6_settle 70 = .ok (.getfield 25, 3) := by decide +kernel
theorem dX6_settle_73 : decode cX6_settle 73 = .ok (.lload_n 2, 1) := by decide +kernel
theorem dX6_settle_74 : decode cX6_settle 74 = .ok (.ladd, 1) := by decide +kernel
theorem dX6_settle_75 : decode cX6_settle 75 = .ok (.lmul, 1) := by decide +kernel
theorem dX6_settle_76 : decode cX6_settle 76 = .ok (.invokestatic 31, 3) := by decide +kernel
theorem dX6_settle_79 : decode cX6_settle 79 = .ok (.isub, 1) := by decide +kernel
theorem dX6_settle_80 : decode cX6_settle 80 = .ok (.putfield 22, 3) := by decide +kernel
theorem dX6_settle_83 : decode cX6_settle 83 = .ok (.return_, 1) := by decide +kernel
theorem dX6_sinkingUnder_0 : decode cX6_sinkingUnder 0 = .ok (.aload_n 0, 1) := by decide +kernel
theorem dX6_sinkingUnder_1 : decode cX6_sinkingUnder 1 = .ok (.getfield 22, 3) := by decide +kernel
theorem dX6_sinkingUnder_4 : decode cX6_sinkingUnder 4 = .ok (.iload_n 1, 1) := by decide +kernel
theorem dX6_sinkingUnder_5 : decode cX6_sinkingUnder 5 = .ok (.aload_n 0, 1) := by decide +kernel
theorem dX6_sinkingUnder_6 : decode cX6_sinkingUnder 6 = .ok (.getfield 22, 3) := by decide +kernel
theorem dX6_sinkingUnder_9 : decode cX6_sinkingUnder 9 = .ok (.imul, 1) := by decide +kernel
theorem dX6_sinkingUnder_10 : decode cX6_sinkingUnder 10 = .ok (.i2l, 1) := by decide +kernel
theorem dX6_sinkingUnder_11 : decode cX6_sinkingUnder 11 = .ok (.bipush 20, 2) := by decide +kernel
theorem dX6_sinkingUnder_13 : decode cX6_sinkingUnder 13 = .ok (.aload_n 0, 1) := by decide +kernel
theorem dX6_sinkingUnder_14 : decode cX6_sinkingUnder 14 = .ok (.getfield 19, 3) := by decide +kernel
theorem dX6_sinkingUnder_17 : decode cX6_sinkingUnder 17 = .ok (.imul, 1) := by decide +kernel
theorem dX6_sinkingUnder_18 : decode cX6_sinkingUnder 18 = .ok (.i2l, 1) := by decide +kernel
theorem dX6_sinkingUnder_19 : decode cX6_sinkingUnder 19 = .ok (.invokestatic 31, 3) := by decide +kernel
theorem dX6_sinkingUnder_22 : decode cX6_sinkingUnder 22 = .ok (.invokestatic 35, 3) := by decide +kernel
theorem dX6_sinkingUnder_25 : decode cX6_sinkingUnder 25 = .ok (.ireturn, 1) := by decide +kernel
theorem dX6_price_0 : decode cX6_price 0 = .ok (.aload_n 0, 1) := by decide +kernel
theorem dX6_price_1 : decode cX6_price 1 = .ok (.getfield 15, 3) := by decide +kernel
theorem dX6_price_4 : decode cX6_price 4 = .ok (.aload_n 0, 1) := by decide +kernel
theorem dX6_price_5 : decode cX6_price 5 = .ok (.getfield 9, 3) := by decide +kernel
theorem dX6_price_8 : decode cX6_price 8 = .ok (.bipush 104, 2) := by decide +kernel
theorem dX6_price_10 : decode cX6_price 10 = .ok (.if_icmp .ne 7, 3) := by decide +kernel
theorem dX6_price_13 : decode cX6_price 13 = .ok (.iconst 3, 1) := by decide +kernel
theorem dX6_price_14 : decode cX6_price 14 = .ok (.goto 17, 3) := by decide +kernel
theorem dX6_price_17 : decode cX6_price 17 = .ok (.aload_n 0, 1) := by decide +kernel
theorem dX6_price_18 : decode cX6_price 18 = .ok (.getfield 9, 3) := by decide +kernel
theorem dX6_price_21 : decode cX6_price 21 = .ok (.bipush 102, 2) := by decide +kernel
theorem dX6_price_23 : decode cX6_price 23 = .ok (.if_icmp .ne 7, 3) := by decide +kernel
theorem dX6_price_26 : decode cX6_price 26 = .ok (.iconst 2, 1) := by decide +kernel
theorem dX6_price_27 : decode cX6_price 27 = .ok (.goto 4, 3) := by decide +kernel
theorem dX6_price_30 : decode cX6_price 30 = .ok (.iconst 1, 1) := by decide +kernel
theorem dX6_price_31 : decode cX6_price 31 = .ok (.imul, 1) := by decide +kernel
theorem dX6_price_32 : decode cX6_price 32 = .ok (.ireturn, 1) := by decide +kernel
theorem dX6_quarrelsWith_0 : decode cX6_quarrelsWith 0 = .ok (.aload_n 0, 1) := by decide +kernel
theorem dX6_quarrelsWith_1 : decode cX6_quarrelsWith 1 = .ok (.getfield 41, 3) := by decide +kernel
theorem dX6_quarrelsWith_4 : decode cX6_quarrelsWith 4 = .ok (.ifCond .eq 18, 3) := by decide +kernel
theorem dX6_quarrelsWith_7 : decode cX6_quarrelsWith 7 = .ok (.aload_n 0, 1) := by decide +kernel
theorem dX6_quarrelsWith_8 : decode cX6_quarrelsWith 8 = .ok (.getfield 41, 3) := by decide +kernel
theorem dX6_quarrelsWith_11 : decode cX6_quarrelsWith 11 = .ok (.aload_n 1, 1) := by decide +kernel
theorem dX6_quarrelsWith_12 : decode cX6_quarrelsWith 12 = .ok (.getfield 41, 3) := by decide +kernel
theorem dX6_quarrelsWith_15 : decode cX6_quarrelsWith 15 = .ok (.if_icmp .ge 7, 3) := by decide +kernel
theorem dX6_quarrelsWith_18 : decode cX6_quarrelsWith 18 = .ok (.iconst 1, 1) := by decide +kernel
theorem dX6_quarrelsWith_19 : decode cX6_quarrelsWith 19 = .ok (.goto 4, 3) := by decide +kernel
theorem dX6_quarrelsWith_22 : decode cX6_quarrelsWith 22 = .ok (.iconst 0, 1) := by decide +kernel
theorem dX6_quarrelsWith_23 : decode cX6_quarrelsWith 23 = .ok (.ireturn, 1) := by decide +kernel
theorem dX7_init_0 : decode cX7_init 0 = .ok (.aload_n 0, 1) := by decide +kernel
theorem dX7_init_1 : decode cX7_init 1 = .ok (.invokespecial 3, 3) := by decide +kernel
theorem dX7_init_4 : decode cX7_init 4 = .ok (.aload_n 0, 1) := by decide +kernel
theorem dX7_init_5 : decode cX7_init 5 = .ok (.new 9, 3) := by decide +kernel
theorem dX7_init_8 : decode cX7_init 8 = .ok (.dup, 1) := by decide +kernel
theorem dX7_init_9 : decode cX7_init 9 = .ok (.invokespecial 11, 3) := by decide +kernel
theorem dX7_init_12 : decode cX7_init 12 = .ok (.putfield 12, 3) := by decide +kernel
theorem dX7_init_15 : decode cX7_init 15 = .ok (.aload_n 0, 1) := by decide +kernel
theorem dX7_init_16 : decode cX7_init 16 = .ok (.new 18, 3) := by decide +kernel
theorem dX7_init_19 : decode cX7_init 19 = .ok (.dup, 1) := by decide +kernel
theorem dX7_init_20 : decode cX7_init 20 = .ok (.invokespecial 20, 3) := by decide +kernel
theorem dX7_init_23 : decode cX7_init 23 = .ok (.putfield 21, 3) := by decide +kernel
theorem dX7_init_26 : decode cX7_init 26 = .ok (.aload_n 0, 1) := by decide +kernel
theorem dX7_init_27 : decode cX7_init 27 = .ok (.new 25, 3) := by decide +kernel
theorem dX7_init_30 : decode cX7_init 30 = .ok (.dup, 1) := by decide +kernel
theorem dX7_init_31 : decode cX7_init 31 = .ok (.invokespecial 27, 3) := by decide +kernel
theorem dX7_init_34 : decode cX7_init 34 = .ok (.putfield 28, 3) := by decide +kernel
theorem dX7_init_37 : decode cX7_init 37 = .ok (.aload_n 0, 1) := by decide +kernel
theorem dX7_init_38 : decode cX7_init 38 = .ok (.new 32, 3) := by decide +kernel
theorem dX7_init_41 : decode cX7_init 41 = .ok (.dup, 1) := by decide +kernel
theorem dX7_init_42 : decode cX7_init 42 = .ok (.invokespecial 34, 3) := by decide +kernel
theorem dX7_init_45 : decode cX7_init 45 = .ok (.putfield 35, 3) := by decide +kernel
theorem dX7_init_48 : decode cX7_init 48 = .ok (.aload_n 0, 1) := by decide +kernel
theorem dX7_init_49 : decode cX7_init 49 = .ok (.bipush 20, 2) := by decide +kernel
theorem dX7_init_51 : decode cX7_init 51 = .ok (.putfield 39, 3) := by decide +kernel
theorem dX7_init_54 : decode cX7_init 54 = .ok (.aload_n 0, 1) := by decide +kernel
theorem dX7_init_55 : decode cX7_init 55 = .ok (.new 43, 3) := by decide +kernel
theorem dX7_init_58 : decode cX7_init 58 = .ok (.dup, 1) := by decide +kernel
theorem dX7_init_59 : decode cX7_init 59 = .ok (.iload_n 1, 1) := by decide +kernel
theorem dX7_init_60 : decode cX7_init 60 = .ok (.iload_n 2, 1) := by decide +kernel
theorem dX7_init_61 : decode cX7_init 61 = .ok (.invokespecial 45, 3) := by decide +kernel
theorem dX7_init_64 : decode cX7_init 64 = .ok (.putfield 48, 3) := by decide +kernel
theorem dX7_init_67 : decode cX7_init 67 = .ok (.return_, 1) := by decide +kernel
theorem dX7_hasSprings_0 : decode cX7_hasSprings 0 = .ok (.aload_n 0, 1) := by decide +kernel
theorem dX7_hasSprings_1 : decode cX7_hasSprings 1 = .ok (.getfield 12, 3) := by decide +kernel
theorem dX7_hasSprings_4 : decode cX7_hasSprings 4 = .ok (.getfield 52, 3) := by decide +kernel
theorem dX7_hasSprings_7 : decode cX7_hasSprings 7 = .ok (.iconst 1, 1) := by decide +kernel
theorem dX7_hasSprings_8 : decode cX7_hasSprings 8 = .ok (.if_icmp .le 7, 3) := by decide +kernel
theorem dX7_hasSprings_11 : decode cX7_hasSprings 11 = .ok (.iconst 1, 1) := by decide +kernel
theorem dX7_hasSprings_12 : decode cX7_hasSprings 12 = .ok (.goto 4, 3) := by decide +kernel
theorem dX7_hasSprings_15 : decode cX7_hasSprings 15 = .ok (.iconst 0, 1) := by decide +kernel
theorem dX7_hasSprings_16 : decode cX7_hasSprings 16 = .ok (.ireturn, 1) := by decide +kernel
theorem dX7_hasCover_0 : decode cX7_hasCover 0 = .ok (.aload_n 0, 1) := by decide +kernel
theorem dX7_hasCover_1 : decode cX7_hasCover 1 = .ok (.getfield 12, 3) := by decide +kernel
theorem dX7_hasCover_4 : decode cX7_hasCover 4 = .ok (.invokevirtual 55, 3) := by decide +kernel
theorem dX7_hasCover_7 : decode cX7_hasCover 7 = .ok (.bipush 99, 2) := by decide +kernel
theorem dX7_hasCover_9 : decode cX7_hasCover 9 = .ok (.if_icmp .ne 7, 3) := by decide +kernel
theorem dX7_hasCover_12 : decode cX7_hasCover 12 = .ok (.iconst 1, 1) := by decide +kernel
theorem dX7_hasCover_13 : decode cX7_hasCover 13 = .ok (.goto 4, 3) := by decide +kernel
theorem dX7_hasCover_16 : decode cX7_hasCover 16 = .ok (.iconst 0, 1) := by decide +kernel
theorem dX7_hasCover_17 : decode cX7_hasCover 17 = .ok (.ireturn, 1) := by decide +kernel
theorem dX7_close_0 : decode cX7_close 0 = .ok (.bipush 10, 2) := by decide +kernel
theorem dX7_close_2 : decode cX7_close 2 = .ok (.aload_n 0, 1) := by decide +kernel
theorem dX7_close_3 : decode cX7_close 3 = .ok (.getfield 48, 3) := by decide +kernel
theorem dX7_close_6 : decode cX7_close 6 = .ok (.getfield 59, 3) := by decide +kernel
theorem dX7_close_9 : decode cX7_close 9 = .ok (.imul, 1) := by decide +kernel
theorem dX7_close_10 : decode cX7_close 10 = .ok (.aload_n 0, 1) := by decide +kernel
theorem dX7_close_11 : decode cX7_close 11 = .ok (.invokevirtual 62, 3) := by decide +kernel
theorem dX7_close_14 : decode cX7_close 14 = .ok (.iadd, 1) := by decide +kernel
theorem dX7_close_15 : decode cX7_close 15 = .ok (.istore_n 3, 1) := by decide +kernel
theorem dX7_close_16 : decode cX7_close 16 = .ok (.aload_n 0, 1) := by decide +kernel
theorem dX7_close_17 : decode cX7_close 17 = .ok (.getfield 35, 3) := by decide +kernel
theorem dX7_close_20 : decode cX7_close 20 = .ok (.aload_n 1, 1) := by decide +kernel
theorem dX7_close_21 : decode cX7_close 21 = .ok (.iload_n 2, 1) := by decide +kernel
theorem dX7_close_22 : decode cX7_close 22 = .ok (.aload_n 0, 1) := by decide +kernel
theorem dX7_close_23 : decode cX7_close 23 = .ok (.getfield 48, 3) := by decide +kernel
theorem dX7_close_26 : decode cX7_close 26 = .ok (.getfield 66, 3) := by decide +kernel
theorem dX7_close_29 : decode cX7_close 29 = .ok (.iload_n 3, 1) := by decide +kernel
theorem dX7_close_30 : decode cX7_close 30 = .ok (.invokevirtual 69, 3) := by decide +kernel
theorem dX7_close_33 : decode cX7_close 33 = .ok (.ifCond .ne 5, 3) := by decide +kernel
theorem dX7_close_36 : decode cX7_close 36 = .ok (.iconst 0, 1) := by decide +kernel
theorem dX7_close_37 : decode cX7_close 37 = .ok (.ireturn, 1) := by decide +kernel
theorem dX7_close_38 : decode cX7_close 38 = .ok (.aload_n 0, 1) := by decide +kernel
theorem dX7_close_39 : decode cX7_close 39 = .ok (.getfield 35, 3) := by decide +kernel
theorem dX7_close_42 : decode cX7_close 42 = .ok (.aload_n 0, 1) := by decide +kernel
theorem dX7_close_43 : decode cX7_close 43 = .ok (.invokevirtual 73, 3) := by decide +kernel
theorem dX7_close_46 : decode cX7_close 46 = .ok (.putfield 76, 3) := by decide +kernel
theorem dX7_close_49 : decode cX7_close 49 = .ok (.aload_n 0, 1) := by decide +kernel
theorem dX7_close_50 : decode cX7_close 50 = .ok (.getfield 35, 3) := by decide +kernel
theorem dX7_close_53 : decode cX7_close 53 = .ok (.iconst 0, 1) := by decide +kernel
theorem dX7_close_54 : decode cX7_close 54 = .ok (.putfield 79, 3) := by decide +kernel
theorem dX7_close_57 : decode cX7_close 57 = .ok (.aload_n 0, 1) := by decide +kernel
theorem dX7_close_58 : decode cX7_close 58 = .ok (.getfield 12, 3) := by decide +kernel
theorem dX7_close_61 : decode cX7_close 61 = .ok (.bipush 99, 2) := by decide +kernel
theorem dX7_close_63 : decode cX7_close 63 = .ok (.invokevirtual 82, 3) := by decide +kernel
theorem dX7_close_66 : decode cX7_close 66 = .ok (.pop, 1) := by decide +kernel
theorem dX7_close_67 : decode cX7_close 67 = .ok (.iconst 1, 1) := by decide +kernel
theorem dX7_close_68 : decode cX7_close 68 = .ok (.ireturn, 1) := by decide +kernel
theorem dX7_openTo_0 : decode cX7_openTo 0 = .ok (.aload_n 0, 1) := by decide +kernel
theorem dX7_openTo_1 : decode cX7_openTo 1 = .ok (.getfield 12, 3) := by decide +kernel
theorem dX7_openTo_4 : decode cX7_openTo 4 = .ok (.getfield 52, 3) := by decide +kernel
theorem dX7_openTo_7 : decode cX7_openTo 7 = .ok (.iload_n 1, 1) := by decide +kernel
theorem dX7_openTo_8 : decode cX7_openTo 8 = .ok (.isub, 1) := by decide +kernel
theorem dX7_openTo_9 : decode cX7_openTo 9 = .ok (.istore_n 2, 1) := by decide +kernel
theorem dX7_openTo_10 : decode cX7_openTo 10 = .ok (.iconst 0, 1) := by decide +kernel
theorem dX7_openTo_11 : decode cX7_openTo 11 = .ok (.istore_n 3, 1) := by decide +kernel
theorem dX7_openTo_12 : decode cX7_openTo 12 = .ok (.iload_n 3, 1) := by decide +kernel
theorem dX7_openTo_13 : decode cX7_openTo 13 = .ok (.iload_n 2, 1) := by decide +kernel
theorem dX7_openTo_14 : decode cX7_openTo 14 = .ok (.if_icmp .ge 20, 3) := by decide +kernel
theorem dX7_openTo_17 : decode cX7_openTo 17 = .ok (.aload_n 0, 1) := by decide +kernel
theorem dX7_openTo_18 : decode cX7_openTo 18 = .ok (.aload_n 0, 1) := by decide +kernel
theorem dX7_openTo_19 : decode cX7_openTo 19 = .ok (.getfield 12, 3) := by decide +kernel
theorem dX7_openTo_22 : decode cX7_openTo 22 = .ok (.invokevirtual 86, 3) := by decide +kernel
theorem dX7_openTo_25 : decode cX7_openTo 25 = .ok (.invokevirtual 89, 3) := by decide +kernel
theorem dX7_openTo_28 : decode cX7_openTo 28 = .ok (.iinc 3 1, 3) := by decide +kernel
theorem dX7_openTo_31 : decode cX7_openTo 31 = .ok (.goto (-19), 3) := by decide +kernel
theorem dX7_openTo_34 : decode cX7_openTo 34 = .ok (.iload_n 2, 1) := by decide +kernel
theorem dX7_openTo_35 : decode cX7_openTo 35 = .ok (.ireturn, 1) := by decide +kernel
theorem dX7_undo_0 : decode cX7_undo 0 = .ok (.iload_n 1, 1) := by decide +kernel
theorem dX7_undo_1 : decode cX7_undo 1 = .ok (.bipush 99, 2) := by decide +kernel
theorem dX7_undo_3 : decode cX7_undo 3 = .ok (.if_icmp .ne 13, 3) := by decide +kernel
theorem dX7_undo_6 : decode cX7_undo 6 = .ok (.aload_n 0, 1) := by decide +kernel
theorem dX7_undo_7 : decode cX7_undo 7 = .ok (.getfield 35, 3) := by decide +kernel
theorem dX7_undo_10 : decode cX7_undo 10 = .ok (.invokevirtual 93, 3) := by decide +kernel
theorem dX7_undo_13 : decode cX7_undo 13 = .ok (.goto 75, 3) := by decide +kernel
theorem dX7_undo_16 : decode cX7_undo 16 = .ok (.iload_n 1, 1) := by decide +kernel
theorem dX7_undo_17 : decode cX7_undo 17 = .ok (.bipush 98, 2) := by decide +kernel
theorem dX7_undo_19 : decode cX7_undo 19 = .ok (.if_icmp .ne 13, 3) := by decide +kernel
theorem dX7_undo_22 : decode cX7_undo 22 = .ok (.aload_n 0, 1) := by decide +kernel
theorem dX7_undo_23 : decode cX7_undo 23 = .ok (.getfield 28, 3) := by decide +kernel
theorem dX7_undo_26 : decode cX7_undo 26 = .ok (.invokevirtual 96, 3) := by decide +kernel
theorem dX7_undo_29 : decode cX7_undo 29 = .ok (.goto 59, 3) := by decide +kernel
theorem dX7_undo_32 : decode cX7_undo 32 = .ok (.iload_n 1, 1) := by decide +kernel
theorem dX7_undo_33 : decode cX7_undo 33 = .ok (.bipush 108, 2) := by decide +kernel
theorem dX7_undo_35 : decode cX7_undo 35 = .ok (.if_icmp .ne 13, 3) := by decide +kernel
theorem dX7_undo_38 : decode cX7_undo 38 = .ok (.aload_n 0, 1) := by decide +kernel
theorem dX7_undo_39 : decode cX7_undo 39 = .ok (.getfield 21, 3) := by decide +kernel
theorem dX7_undo_42 : decode cX7_undo 42 = .ok (.invokevirtual 99, 3) := by decide +kernel
theorem dX7_undo_45 : decode cX7_undo 45 = .ok (.goto 43, 3) := by decide +kernel
theorem dX7_undo_48 : decode cX7_undo 48 = .ok (.iload_n 1, 1) := by decide +kernel
theorem dX7_undo_49 : decode cX7_undo 49 = .ok (.bipush 116, 2) := by decide +kernel
theorem dX7_undo_51 : decode cX7_undo 51 = .ok (.if_icmp .ne 13, 3) := by decide +kernel
theorem dX7_undo_54 : decode cX7_undo 54 = .ok (.aload_n 0, 1) := by decide +kernel
theorem dX7_undo_55 : decode cX7_undo 55 = .ok (.getfield 48, 3) := by decide +kernel
theorem dX7_undo_58 : decode cX7_undo 58 = .ok (.invokevirtual 102, 3) := by decide +kernel
theorem dX7_undo_61 : decode cX7_undo 61 = .ok (.goto 27, 3) := by decide +kernel
theorem dX7_undo_64 : decode cX7_undo 64 = .ok (.iload_n 1, 1) := by decide +kernel
theorem dX7_undo_65 : decode cX7_undo 65 = .ok (.bipush 115, 2) := by decide +kernel
theorem dX7_undo_67 : decode cX7_undo 67 = .ok (.if_icmp .ne 13, 3) := by decide +kernel
theorem dX7_undo_70 : decode cX7_undo 70 = .ok (.aload_n 0, 1) := by decide +kernel
theorem dX7_undo_71 : decode cX7_undo 71 = .ok (.getfield 48, 3) := by decide +kernel
theorem dX7_undo_74 : decode cX7_undo 74 = .ok (.invokevirtual 105, 3) := by decide +kernel
theorem dX7_undo_77 : decode cX7_undo 77 = .ok (.goto 11, 3) := by decide +kernel
theorem dX7_undo_80 : decode cX7_undo 80 = .ok (.aload_n 0, 1) := by decide +kernel
theorem dX7_undo_81 : decode cX7_undo 81 = .ok (.getfield 48, 3) := by decide +kernel
theorem dX7_undo_84 : decode cX7_undo 84 = .ok (.iconst 0, 1) := by decide +kernel
theorem dX7_undo_85 : decode cX7_undo 85 = .ok (.putfield 108, 3) := by decide +kernel
theorem dX7_undo_88 : decode cX7_undo 88 = .ok (.return_, 1) := by decide +kernel
theorem dX7_topOf_0 : decode cX7_topOf 0 = .ok (.iconst 0, 1) := by decide +kernel
theorem dX7_topOf_1 : decode cX7_topOf 1 = .ok (.aload_n 0, 1) := by decide +kernel
theorem dX7_topOf_2 : decode cX7_topOf 2 = .ok (.getfield 48, 3) := by decide +kernel
theorem dX7_topOf_5 : decode cX7_topOf 5 = .ok (.iload_n 1, 1) := by decide +kernel
theorem dX7_topOf_6 : decode cX7_topOf 6 = .ok (.invokevirtual 111, 3) := by decide +kernel
theorem dX7_topOf_9 : decode cX7_topOf 9 = .ok (.aload_n 0, 1) := by decide +kernel
theorem dX7_topOf_10 : decode cX7_topOf 10 = .ok (.getfield 21, 3) := by decide +kernel
theorem dX7_topOf_13 : decode cX7_topOf 13 = .ok (.invokevirtual 115, 3) := by decide +kernel
theorem dX7_topOf_16 : decode cX7_topOf 16 = .ok (.iadd, 1) := by decide +kernel
theorem dX7_topOf_17 : decode cX7_topOf 17 = .ok (.aload_n 0, 1) := by decide +kernel
theorem dX7_topOf_18 : decode cX7_topOf 18 = .ok (.getfield 28, 3) := by decide +kernel
theorem dX7_topOf_21 : decode cX7_topOf 21 = .ok (.iload_n 1, 1) := by decide +kernel
theorem dX7_topOf_22 : decode cX7_topOf 22 = .ok (.invokevirtual 118, 3) := by decide +kernel
theorem dX7_topOf_25 : decode cX7_topOf 25 = .ok (.isub, 1) := by decide +kernel
theorem dX7_topOf_26 : decode cX7_topOf 26 = .ok (.invokestatic 121, 3) := by decide +kernel
theorem dX7_topOf_29 : decode cX7_topOf 29 = .ok (.ireturn, 1) := by decide +kernel
theorem dX7_topsInAll_0 : decode cX7_topsInAll 0 = .ok (.iconst 0, 1) := by decide +kernel
theorem dX7_topsInAll_1 : decode cX7_topsInAll 1 = .ok (.istore_n 1, 1) := by decide +kernel
theorem dX7_topsInAll_2 : decode cX7_topsInAll 2 = .ok (.iconst 0, 1) := by decide +kernel
theorem dX7_topsInAll_3 : decode cX7_topsInAll 3 = .ok (.istore_n 2, 1) := by decide +kernel
theorem dX7_topsInAll_4 : decode cX7_topsInAll 4 = .ok (.iload_n 2, 1) := by decide +kernel
theorem dX7_topsInAll_5 : decode cX7_topsInAll 5 = .ok (.aload_n 0, 1) := by decide +kernel
theorem dX7_topsInAll_6 : decode cX7_topsInAll 6 = .ok (.getfield 48, 3) := by decide +kernel
theorem dX7_topsInAll_9 : decode cX7_topsInAll 9 = .ok (.invokevirtual 127, 3) := by decide +kernel
theorem dX7_topsInAll_12 : decode cX7_topsInAll 12 = .ok (.if_icmp .ge 24, 3) := by decide +kernel
theorem dX7_topsInAll_15 : decode cX7_topsInAll 15 = .ok (.iload_n 1, 1) := by decide +kernel
theorem dX7_topsInAll_16 : decode cX7_topsInAll 16 = .ok (.aload_n 0, 1) := by decide +kernel
theorem dX7_topsInAll_17 : decode cX7_topsInAll 17 = .ok (.aload_n 0, 1) := by decide +kernel
theorem dX7_topsInAll_18 : decode cX7_topsInAll 18 = .ok (.getfield 48, 3) := by decide +kernel
theorem dX7_topsInAll_21 : decode cX7_topsInAll 21 = .ok (.iload_n 2, 1) := by decide +kernel
theorem dX7_topsInAll_22 : decode cX7_topsInAll 22 = .ok (.invokevirtual 130, 3) := by decide +kernel
theorem dX7_topsInAll_25 : decode cX7_topsInAll 25 = .ok (.invokevirtual 133, 3) := by decide +kernel
theorem dX7_topsInAll_28 : decode cX7_topsInAll 28 = .ok (.iadd, 1) := by decide +kernel
theorem dX7_topsInAll_29 : decode cX7_topsInAll 29 = .ok (.istore_n 1, 1) := by decide +kernel
theorem dX7_topsInAll_30 : decode cX7_topsInAll 30 = .ok (.iinc 2 1, 3) := by decide +kernel
theorem dX7_topsInAll_33 : decode cX7_topsInAll 33 = .ok (.goto (-29), 3) := by decide +kernel
theorem dX7_topsInAll_36 : decode cX7_topsInAll 36 = .ok (.iload_n 1, 1) := by decide +kernel
theorem dX7_topsInAll_37 : decode cX7_topsInAll 37 = .ok (.ireturn, 1) := by decide +kernel
theorem dX7_greatestTop_0 : decode cX7_greatestTop 0 = .ok (.iconst 0, 1) := by decide +kernel
theorem dX7_greatestTop_1 : decode cX7_greatestTop 1 = .ok (.istore_n 1, 1) := by decide +kernel
theorem dX7_greatestTop_2 : decode cX7_greatestTop 2 = .ok (.iconst 0, 1) := by decide +kernel
theorem dX7_greatestTop_3 : decode cX7_greatestTop 3 = .ok (.istore_n 2, 1) := by decide +kernel
theorem dX7_greatestTop_4 : decode cX7_greatestTop 4 = .ok (.iload_n 2, 1) := by decide +kernel
theorem dX7_greatestTop_5 : decode cX7_greatestTop 5 = .ok (.aload_n 0, 1) := by decide +kernel
theorem dX7_greatestTop_6 : decode cX7_greatestTop 6 = .ok (.getfield 48, 3) := by decide +kernel
theorem dX7_greatestTop_9 : decode cX7_greatestTop 9 = .ok (.invokevirtual 127, 3) := by decide +kernel
theorem dX7_greatestTop_12 : decode cX7_greatestTop 12 = .ok (.if_icmp .ge 26, 3) := by decide +kernel
theorem dX7_greatestTop_15 : decode cX7_greatestTop 15 = .ok (.iload_n 1, 1) := by decide +kernel
theorem dX7_greatestTop_16 : decode cX7_greatestTop 16 = .ok (.aload_n 0, 1) := by decide +kernel
theorem dX7_greatestTop_17 : decode cX7_greatestTop 17 = .ok (.aload_n 0, 1) := by decide +kernel
theorem dX7_greatestTop_18 : decode cX7_greatestTop 18 = .ok (.getfield 48, 3) := by decide +kernel
theorem dX7_greatestTop_21 : decode cX7_greatestTop 21 = .ok (.iload_n 2, 1) := by decide +kernel
theorem dX7_greatestTop_22 : decode cX7_greatestTop 22 = .ok (.invokevirtual 130, 3) := by decide +kernel
theorem dX7_greatestTop_25 : decode cX7_greatestTop 25 = .ok (.invokevirtual 133, 3) := by decide +kernel
theorem dX7_greatestTop_28 : decode cX7_greatestTop 28 = .ok (.invokestatic 121, 3) := by decide +kernel
theorem dX7_greatestTop_31 : decode cX7_greatestTop 31 = .ok (.istore_n 1, 1) := by decide +kernel
theorem dX7_greatestTop_32 : decode cX7_greatestTop 32 = .ok (.iinc 2 1, 3) := by decide +kernel
theorem dX7_greatestTop_35 : decode cX7_greatestTop 35 = .ok (.goto (-31), 3) := by decide +kernel
theorem dX7_greatestTop_38 : decode cX7_greatestTop 38 = .ok (.iload_n 1, 1) := by decide +kernel
theorem dX7_greatestTop_39 : decode cX7_greatestTop 39 = .ok (.ireturn, 1) := by decide +kernel
theorem dX7_hasSoundTops_0 : decode cX7_hasSoundTops 0 = .ok (.iconst 0, 1) := by decide +kernel
theorem dX7_hasSoundTops_1 : decode cX7_hasSoundTops 1 = .ok (.istore_n 1, 1) := by decide +kernel
theorem dX7_hasSoundTops_2 : decode cX7_hasSoundTops 2 = .ok (.iload_n 1, 1) := by decide +kernel
theorem dX7_hasSoundTops_3 : decode cX7_hasSoundTops 3 = .ok (.aload_n 0, 1) := by decide +kernel
theorem dX7_hasSoundTops_4 : decode cX7_hasSoundTops 4 = .ok (.getfield 48, 3) := by decide +kernel
theorem dX7_hasSoundTops_7 : decode cX7_hasSoundTops 7 = .ok (.invokevirtual 127, 3) := by decide +kernel
theorem dX7_hasSoundTops_10 : decode cX7_hasSoundTops 10 = .ok (.if_icmp .ge 26, 3) := by decide +kernel
theorem dX7_hasSoundTops_13 : decode cX7_hasSoundTops 13 = .ok (.aload_n 0, 1) := by decide +kernel
theorem dX7_hasSoundTops_14 : decode cX7_hasSoundTops 14 = .ok (.aload_n 0, 1) := by decide +kernel
theorem dX7_hasSoundTops_15 : decode cX7_hasSoundTops 15 = .ok (.getfield 48, 3) := by decide +kernel
theorem dX7_hasSoundTops_18 : decode cX7_hasSoundTops 18 = .ok (.iload_n 1, 1) := by decide +kernel
theorem dX7_hasSoundTops_19 : decode cX7_hasSoundTops 19 = .ok (.invokevirtual 130, 3) := by decide +kernel
theorem dX7_hasSoundTops_22 : decode cX7_hasSoundTops 22 = .ok (.invokevirtual 133, 3) := by decide +kernel
theorem dX7_hasSoundTops_25 : decode cX7_hasSoundTops 25 = .ok (.ifCond .ge 5, 3) := by decide +kernel
theorem dX7_hasSoundTops_28 : decode cX7_hasSoundTops 28 = .ok (.iconst 0, 1) := by decide +kernel
theorem dX7_hasSoundTops_29 : decode cX7_hasSoundTops 29 = .ok (.ireturn, 1) := by decide +kernel
theorem dX7_hasSoundTops_30 : decode cX7_hasSoundTops 30 = .ok (.iinc 1 1, 3) := by decide +kernel
theorem dX7_hasSoundTops_33 : decode cX7_hasSoundTops 33 = .ok (.goto (-31), 3) := by decide +kernel
theorem dX7_hasSoundTops_36 : decode cX7_hasSoundTops 36 = .ok (.iconst 1, 1) := by decide +kernel
theorem dX7_hasSoundTops_37 : decode cX7_hasSoundTops 37 = .ok (.ireturn, 1) := by decide +kernel
theorem dX7_buttonCount_0 : decode cX7_buttonCount 0 = .ok (.iconst 0, 1) := by decide +kernel
theorem dX7_buttonCount_1 : decode cX7_buttonCount 1 = .ok (.istore_n 1, 1) := by decide +kernel
theorem dX7_buttonCount_2 : decode cX7_buttonCount 2 = .ok (.iconst 0, 1) := by decide +kernel
theorem dX7_buttonCount_3 : decode cX7_buttonCount 3 = .ok (.istore_n 2, 1) := by decide +kernel
theorem dX7_buttonCount_4 : decode cX7_buttonCount 4 = .ok (.iload_n 2, 1) := by decide +kernel
theorem dX7_buttonCount_5 : decode cX7_buttonCount 5 = .ok (.aload_n 0, 1) := by decide +kernel
theorem dX7_buttonCount_6 : decode cX7_buttonCount 6 = .ok (.getfield 48, 3) := by decide +kernel
theorem dX7_buttonCount_9 : decode cX7_buttonCount 9 = .ok (.invokevirtual 127, 3) := by decide +kernel
theorem dX7_buttonCount_12 : decode cX7_buttonCount 12 = .ok (.if_icmp .ge 30, 3) := by decide +kernel
theorem dX7_buttonCount_15 : decode cX7_buttonCount 15 = .ok (.aload_n 0, 1) := by decide +kernel
theorem dX7_buttonCount_16 : decode cX7_buttonCount 16 = .ok (.getfield 28, 3) := by decide +kernel
theorem dX7_buttonCount_19 : decode cX7_buttonCount 19 = .ok (.aload_n 0, 1) := by decide +kernel
theorem dX7_buttonCount_20 : decode cX7_buttonCount 20 = .ok (.getfield 48, 3) := by decide +kernel
theorem dX7_buttonCount_23 : decode cX7_buttonCount 23 = .ok (.iload_n 2, 1) := by decide +kernel
theorem dX7_buttonCount_24 : decode cX7_buttonCount 24 = .ok (.invokevirtual 130, 3) := by decide +kernel
theorem dX7_buttonCount_27 : decode cX7_buttonCount 27 = .ok (.invokevirtual 118, 3) := by decide +kernel
theorem dX7_buttonCount_30 : decode cX7_buttonCount 30 = .ok (.ifCond .le 6, 3) := by decide +kernel
theorem dX7_buttonCount_33 : decode cX7_buttonCount 33 = .ok (.iinc 1 1, 3) := by decide +kernel
theorem dX7_buttonCount_36 : decode cX7_buttonCount 36 = .ok (.iinc 2 1, 3) := by decide +kernel
theorem dX7_buttonCount_39 : decode cX7_buttonCount 39 = .ok (.goto (-35), 3) := by decide +kernel
theorem dX7_buttonCount_42 : decode cX7_buttonCount 42 = .ok (.iload_n 1, 1) := by decide +kernel
theorem dX7_buttonCount_43 : decode cX7_buttonCount 43 = .ok (.ireturn, 1) := by decide +kernel
theorem dX7_foldCount_0 : decode cX7_foldCount 0 = .ok (.iconst 0, 1) := by decide +kernel
theorem dX7_foldCount_1 : decode cX7_foldCount 1 = .ok (.istore_n 2, 1) := by decide +kernel
theorem dX7_foldCount_2 : decode cX7_foldCount 2 = .ok (.iconst 0, 1) := by decide +kernel
theorem dX7_foldCount_3 : decode cX7_foldCount 3 = .ok (.istore_n 3, 1) := by decide +kernel
theorem dX7_foldCount_4 : decode cX7_foldCount 4 = .ok (.iload_n 3, 1) := by decide +kernel
theorem dX7_foldCount_5 : decode cX7_foldCount 5 = .ok (.aload_n 0, 1) := by decide +kernel
theorem dX7_foldCount_6 : decode cX7_foldCount 6 = .ok (.getfield 48, 3) := by decide +kernel
theorem dX7_foldCount_9 : decode cX7_foldCount 9 = .ok (.invokevirtual 127, 3) := by decide +kernel
theorem dX7_foldCount_12 : decode cX7_foldCount 12 = .ok (.if_icmp .ge 53, 3) := by decide +kernel
theorem dX7_foldCount_15 : decode cX7_foldCount 15 = .ok (.aload_n 0, 1) := by decide +kernel
theorem dX7_foldCount_16 : decode cX7_foldCount 16 = .ok (.getfield 48, 3) := by decide +kernel
theorem dX7_foldCount_19 : decode cX7_foldCount 19 = .ok (.iload_n 3, 1) := by decide +kernel
theorem dX7_foldCount_20 : decode cX7_foldCount 20 = .ok (.invokevirtual 130, 3) := by decide +kernel
theorem dX7_foldCount_23 : decode cX7_foldCount 23 = .ok (.istore 4, 2) := by decide +kernel
theorem dX7_foldCount_25 : decode cX7_foldCount 25 = .ok (.iload_n 2, 1) := by decide +kernel
theorem dX7_foldCount_26 : decode cX7_foldCount 26 = .ok (.aload_n 0, 1) := by decide +kernel
theorem dX7_foldCount_27 : decode cX7_foldCount 27 = .ok (.iload 4, 2) := by decide +kernel
theorem dX7_foldCount_29 : decode cX7_foldCount 29 = .ok (.iload 4, 2) := by decide +kernel
theorem dX7_foldCount_31 : decode cX7_foldCount 31 = .ok (.bipush 10, 2) := by decide +kernel
theorem dX7_foldCount_33 : decode cX7_foldCount 33 = .ok (.iadd, 1) := by decide +kernel
theorem dX7_foldCount_34 : decode cX7_foldCount 34 = .ok (.iconst 1, 1) := by decide +kernel
theorem dX7_foldCount_35 : decode cX7_foldCount 35 = .ok (.isub, 1) := by decide +kernel
theorem dX7_foldCount_36 : decode cX7_foldCount 36 = .ok (.iload_n 1, 1) := by decide +kernel
theorem dX7_foldCount_37 : decode cX7_foldCount 37 = .ok (.invokevirtual 136, 3) := by decide +kernel
theorem dX7_foldCount_40 : decode cX7_foldCount 40 = .ok (.iadd, 1) := by decide +kernel
theorem dX7_foldCount_41 : decode cX7_foldCount 41 = .ok (.istore_n 2, 1) := by decide +kernel
theorem dX7_foldCount_42 : decode cX7_foldCount 42 = .ok (.iload_n 2, 1) := by decide +kernel
theorem dX7_foldCount_43 : decode cX7_foldCount 43 = .ok (.aload_n 0, 1) := by decide +kernel
theorem dX7_foldCount_44 : decode cX7_foldCount 44 = .ok (.iload 4, 2) := by decide +kernel
theorem dX7_foldCount_46 : decode cX7_foldCount 46 = .ok (.iload 4, 2) := by decide +kernel
theorem dX7_foldCount_48 : decode cX7_foldCount 48 = .ok (.bipush 10, 2) := by decide +kernel
theorem dX7_foldCount_50 : decode cX7_foldCount 50 = .ok (.iadd, 1) := by decide +kernel
theorem dX7_foldCount_51 : decode cX7_foldCount 51 = .ok (.iconst 1, 1) := by decide +kernel
theorem dX7_foldCount_52 : decode cX7_foldCount 52 = .ok (.iadd, 1) := by decide +kernel
theorem dX7_foldCount_53 : decode cX7_foldCount 53 = .ok (.iload_n 1, 1) := by decide +kernel
theorem dX7_foldCount_54 : decode cX7_foldCount 54 = .ok (.invokevirtual 136, 3) := by decide +kernel
theorem dX7_foldCount_57 : decode cX7_foldCount 57 = .ok (.iadd, 1) := by decide +kernel
theorem dX7_foldCount_58 : decode cX7_foldCount 58 = .ok (.istore_n 2, 1) := by decide +kernel
theorem dX7_foldCount_59 : decode cX7_foldCount 59 = .ok (.iinc 3 1, 3) := by decide +kernel
theorem dX7_foldCount_62 : decode cX7_foldCount 62 = .ok (.goto (-58), 3) := by decide +kernel
theorem dX7_foldCount_65 : decode cX7_foldCount 65 = .ok (.iload_n 2, 1) := by decide +kernel
theorem dX7_foldCount_66 : decode cX7_foldCount 66 = .ok (.ireturn, 1) := by decide +kernel
theorem dX7_foldBetween_0 : decode cX7_foldBetween 0 = .ok (.aload_n 0, 1) := by decide +kernel
theorem dX7_foldBetween_1 : decode cX7_foldBetween 1 = .ok (.getfield 28, 3) := by decide +kernel
theorem dX7_foldBetween_4 : decode cX7_foldBetween 4 = .ok (.iload_n 1, 1) := by decide +kernel
theorem dX7_foldBetween_5 : decode cX7_foldBetween 5 = .ok (.invokevirtual 118, 3) := by decide +kernel
theorem dX7_foldBetween_8 : decode cX7_foldBetween 8 = .ok (.istore 4, 2) := by decide +kernel
theorem dX7_foldBetween_10 : decode cX7_foldBetween 10 = .ok (.aload_n 0, 1) := by decide +kernel
theorem dX7_foldBetween_11 : decode cX7_foldBetween 11 = .ok (.getfield 28, 3) := by decide +kernel
theorem dX7_foldBetween_14 : decode cX7_foldBetween 14 = .ok (.iload_n 2, 1) := by decide +kernel
theorem dX7_foldBetween_15 : decode cX7_foldBetween 15 = .ok (.invokevirtual 118, 3) := by decide +kernel
theorem dX7_foldBetween_18 : decode cX7_foldBetween 18 = .ok (.istore 5, 2) := by decide +kernel
theorem dX7_foldBetween_20 : decode cX7_foldBetween 20 = .ok (.iload 4, 2) := by decide +kernel
theorem dX7_foldBetween_22 : decode cX7_foldBetween 22 = .ok (.ifCond .le 12, 3) := by decide +kernel
theorem dX7_foldBetween_25 : decode cX7_foldBetween 25 = .ok (.iload 5, 2) := by decide +kernel
theorem dX7_foldBetween_27 : decode cX7_foldBetween 27 = .ok (.ifCond .le 7, 3) := by decide +kernel
theorem dX7_foldBetween_30 : decode cX7_foldBetween 30 = .ok (.iconst 1, 1) := by decide +kernel
theorem dX7_foldBetween_31 : decode cX7_foldBetween 31 = .ok (.goto 4, 3) := by decide +kernel
theorem dX7_foldBetween_34 : decode cX7_foldBetween 34 = .ok (.iconst 0, 1) := by decide +kernel
theorem dX7_foldBetween_35 : decode cX7_foldBetween 35 = .ok (.istore 6, 2) := by decide +kernel
theorem dX7_foldBetween_37 : decode cX7_foldBetween 37 = .ok (.iload 6, 2) := by decide +kernel
theorem dX7_foldBetween_39 : decode cX7_foldBetween 39 = .ok (.ifCond .eq 23, 3) := by decide +kernel
theorem dX7_foldBetween_42 : decode cX7_foldBetween 42 = .ok (.iload_n 3, 1) := by decide +kernel
theorem dX7_foldBetween_43 : decode cX7_foldBetween 43 = .ok (.ifCond .eq 15, 3) := by decide +kernel
theorem dX7_foldBetween_46 : decode cX7_foldBetween 46 = .ok (.iload 4, 2) := by decide +kernel
theorem dX7_foldBetween_48 : decode cX7_foldBetween 48 = .ok (.iload 5, 2) := by decide +kernel
theorem dX7_foldBetween_50 : decode cX7_foldBetween 50 = .ok (.isub, 1) := by decide +kernel
theorem dX7_foldBetween_51 : decode cX7_foldBetween 51 = .ok (.invokestatic 140, 3) := by decide +kernel
theorem dX7_foldBetween_54 : decode cX7_foldBetween 54 = .ok (.iconst 3, 1) := by decide +kernel
theorem dX7_foldBetween_55 : decode cX7_foldBetween 55 = .ok (.if_icmp .gt 7, 3) := by decide +kernel
theorem dX7_foldBetween_58 : decode cX7_foldBetween 58 = .ok (.iconst 1, 1) := by decide +kernel
theorem dX7_foldBetween_59 : decode cX7_foldBetween 59 = .ok (.goto 4, 3) := by decide +kernel
theorem dX7_foldBetween_62 : decode cX7_foldBetween 62 = .ok (.iconst 0, 1) := by decide +kernel
theorem dX7_foldBetween_63 : decode cX7_foldBetween 63 = .ok (.ireturn, 1) := by decide +kernel
theorem dX7_wear_0 : decode cX7_wear 0 = .ok (.aload_n 0, 1) := by decide +kernel
theorem dX7_wear_1 : decode cX7_wear 1 = .ok (.invokevirtual 73, 3) := by decide +kernel
theorem dX7_wear_4 : decode cX7_wear 4 = .ok (.istore_n 2, 1) := by decide +kernel
theorem dX7_wear_5 : decode cX7_wear 5 = .ok (.aload_n 0, 1) := by decide +kernel
theorem dX7_wear_6 : decode cX7_wear 6 = .ok (.getfield 35, 3) := by decide +kernel
theorem dX7_wear_9 : decode cX7_wear 9 = .ok (.dup, 1) := by decide +kernel
theorem dX7_wear_10 : decode cX7_wear 10 = .ok (.getfield 79, 3) := by decide +kernel
theorem dX7_wear_13 : decode cX7_wear 13 = .ok (.iload_n 1, 1) := by decide +kernel
theorem dX7_wear_14 : decode cX7_wear 14 = .ok (.iadd, 1) := by decide +kernel
theorem dX7_wear_15 : decode cX7_wear 15 = .ok (.putfield 79, 3) := by decide +kernel
theorem dX7_wear_18 : decode cX7_wear 18 = .ok (.aload_n 0, 1) := by decide +kernel
theorem dX7_wear_19 : decode cX7_wear 19 = .ok (.getfield 21, 3) := by decide +kernel
theorem dX7_wear_22 : decode cX7_wear 22 = .ok (.iload_n 1, 1) := by decide +kernel
theorem dX7_wear_23 : decode cX7_wear 23 = .ok (.invokevirtual 143, 3) := by decide +kernel
theorem dX7_wear_26 : decode cX7_wear 26 = .ok (.iload_n 2, 1) := by decide +kernel
theorem dX7_wear_27 : decode cX7_wear 27 = .ok (.aload_n 0, 1) := by decide +kernel
theorem dX7_wear_28 : decode cX7_wear 28 = .ok (.invokevirtual 73, 3) := by decide +kernel
theorem dX7_wear_31 : decode cX7_wear 31 = .ok (.isub, 1) := by decide +kernel
theorem dX7_wear_32 : decode cX7_wear 32 = .ok (.ireturn, 1) := by decide +kernel
theorem dX7_price_0 : decode cX7_price 0 = .ok (.aload_n 0, 1) := by decide +kernel
theorem dX7_price_1 : decode cX7_price 1 = .ok (.invokevirtual 147, 3) := by decide +kernel
theorem dX7_price_4 : decode cX7_price 4 = .ok (.ifCond .eq 13, 3) := by decide +kernel
theorem dX7_price_7 : decode cX7_price 7 = .ok (.aload_n 0, 1) := by decide +kernel
theorem dX7_price_8 : decode cX7_price 8 = .ok (.getfield 48, 3) := by decide +kernel
theorem dX7_price_11 : decode cX7_price 11 = .ok (.invokevirtual 127, 3) := by decide +kernel
theorem dX7_price_14 : decode cX7_price 14 = .ok (.goto 4, 3) := by decide +kernel
theorem dX7_price_17 : decode cX7_price 17 = .ok (.iconst 0, 1) := by decide +kernel
theorem dX7_price_18 : decode cX7_price 18 = .ok (.istore_n 1, 1) := by decide +kernel
theorem dX7_price_19 : decode cX7_price 19 = .ok (.iconst 5, 1) := by decide +kernel
theorem dX7_price_20 : decode cX7_price 20 = .ok (.iload_n 1, 1) := by decide +kernel
theorem dX7_price_21 : decode cX7_price 21 = .ok (.imul, 1) := by decide +kernel
theorem dX7_price_22 : decode cX7_price 22 = .ok (.iconst 2, 1) := by decide +kernel
theorem dX7_price_23 : decode cX7_price 23 = .ok (.aload_n 0, 1) := by decide +kernel
theorem dX7_price_24 : decode cX7_price 24 = .ok (.getfield 48, 3) := by decide +kernel
theorem dX7_price_27 : decode cX7_price 27 = .ok (.invokevirtual 151, 3) := by decide +kernel
theorem dX7_price_30 : decode cX7_price 30 = .ok (.imul, 1) := by decide +kernel
theorem dX7_price_31 : decode cX7_price 31 = .ok (.iadd, 1) := by decide +kernel
theorem dX7_price_32 : decode cX7_price 32 = .ok (.aload_n 0, 1) := by decide +kernel
theorem dX7_price_33 : decode cX7_price 33 = .ok (.getfield 21, 3) := by decide +kernel
theorem dX7_price_36 : decode cX7_price 36 = .ok (.invokevirtual 154, 3) := by decide +kernel
theorem dX7_price_39 : decode cX7_price 39 = .ok (.iadd, 1) := by decide +kernel
theorem dX7_price_40 : decode cX7_price 40 = .ok (.iconst 4, 1) := by decide +kernel
theorem dX7_price_41 : decode cX7_price 41 = .ok (.aload_n 0, 1) := by decide +kernel
theorem dX7_price_42 : decode cX7_price 42 = .ok (.invokevirtual 157, 3) := by decide +kernel
theorem dX7_price_45 : decode cX7_price 45 = .ok (.imul, 1) := by decide +kernel
theorem dX7_price_46 : decode cX7_price 46 = .ok (.iadd, 1) := by decide +kernel
theorem dX7_price_47 : decode cX7_price 47 = .ok (.aload_n 0, 1) := by decide +kernel
theorem dX7_price_48 : decode cX7_price 48 = .ok (.getfield 35, 3) := by decide +kernel
theorem dX7_price_51 : decode cX7_price 51 = .ok (.invokevirtual 160, 3) := by decide +kernel
theorem dX7_price_54 : decode cX7_price 54 = .ok (.iadd, 1) := by decide +kernel
theorem dX7_price_55 : decode cX7_price 55 = .ok (.ireturn, 1) := by decide +kernel
theorem dX7_tellSinking_0 : decode cX7_tellSinking 0 = .ok (.aload_n 2, 1) := by decide +kernel
theorem dX7_tellSinking_1 : decode cX7_tellSinking 1 = .ok (.invokevirtual 96, 3) := by decide +kernel
theorem dX7_tellSinking_4 : decode cX7_tellSinking 4 = .ok (.aload_n 0, 1) := by decide +kernel
theorem dX7_tellSinking_5 : decode cX7_tellSinking 5 = .ok (.getfield 48, 3) := by decide +kernel
theorem dX7_tellSinking_8 : decode cX7_tellSinking 8 = .ok (.invokevirtual 127, 3) := by decide +kernel
theorem dX7_tellSinking_11 : decode cX7_tellSinking 11 = .ok (.istore_n 3, 1) := by decide +kernel
theorem dX7_tellSinking_12 : decode cX7_tellSinking 12 = .ok (.iconst 0, 1) := by decide +kernel
theorem dX7_tellSinking_13 : decode cX7_tellSinking 13 = .ok (.istore 4, 2) := by decide +kernel
theorem dX7_tellSinking_15 : decode cX7_tellSinking 15 = .ok (.iload 4, 2) := by decide +kernel
theorem dX7_tellSinking_17 : decode cX7_tellSinking 17 = .ok (.iload_n 3, 1) := by decide +kernel
theorem dX7_tellSinking_18 : decode cX7_tellSinking 18 = .ok (.if_icmp .ge 89, 3) := by decide +kernel
theorem dX7_tellSinking_21 : decode cX7_tellSinking 21 = .ok (.aload_n 0, 1) := by decide +kernel
theorem dX7_tellSinking_22 : decode cX7_tellSinking 22 = .ok (.getfield 48, 3) := by decide +kernel
theorem dX7_tellSinking_25 : decode cX7_tellSinking 25 = .ok (.iload 4, 2) := by decide +kernel
theorem dX7_tellSinking_27 : decode cX7_tellSinking 27 = .ok (.invokevirtual 130, 3) := by decide +kernel
theorem dX7_tellSinking_30 : decode cX7_tellSinking 30 = .ok (.istore 5, 2) := by decide +kernel
theorem dX7_tellSinking_32 : decode cX7_tellSinking 32 = .ok (.aload_n 1, 1) := by decide +kernel
theorem dX7_tellSinking_33 : decode cX7_tellSinking 33 = .ok (.iload 5, 2) := by decide +kernel
theorem dX7_tellSinking_35 : decode cX7_tellSinking 35 = .ok (.invokevirtual 118, 3) := by decide +kernel
theorem dX7_tellSinking_38 : decode cX7_tellSinking 38 = .ok (.istore 6, 2) := by decide +kernel
theorem dX7_tellSinking_40 : decode cX7_tellSinking 40 = .ok (.aload_n 0, 1) := by decide +kernel
theorem dX7_tellSinking_41 : decode cX7_tellSinking 41 = .ok (.getfield 48, 3) := by decide +kernel
theorem dX7_tellSinking_44 : decode cX7_tellSinking 44 = .ok (.iload 6, 2) := by decide +kernel
theorem dX7_tellSinking_46 : decode cX7_tellSinking 46 = .ok (.iload 5, 2) := by decide +kernel
theorem dX7_tellSinking_48 : decode cX7_tellSinking 48 = .ok (.invokevirtual 163, 3) := by decide +kernel
theorem dX7_tellSinking_51 : decode cX7_tellSinking 51 = .ok (.aload_n 0, 1) := by decide +kernel
theorem dX7_tellSinking_52 : decode cX7_tellSinking 52 = .ok (.getfield 21, 3) := by decide +kernel
theorem dX7_tellSinking_55 : decode cX7_tellSinking 55 = .ok (.iload 6, 2) := by decide +kernel
theorem dX7_tellSinking_57 : decode cX7_tellSinking 57 = .ok (.invokevirtual 166, 3) := by decide +kernel
theorem dX7_tellSinking_60 : decode cX7_tellSinking 60 = .ok (.iadd, 1) := by decide +kernel
theorem dX7_tellSinking_61 : decode cX7_tellSinking 61 = .ok (.istore 7, 2) := by decide +kernel
theorem dX7_tellSinking_63 : decode cX7_tellSinking 63 = .ok (.aload_n 2, 1) := by decide +kernel
theorem dX7_tellSinking_64 : decode cX7_tellSinking 64 = .ok (.iload 5, 2) := by decide +kernel
theorem dX7_tellSinking_66 : decode cX7_tellSinking 66 = .ok (.bipush 10, 2) := by decide +kernel
theorem dX7_tellSinking_68 : decode cX7_tellSinking 68 = .ok (.isub, 1) := by decide +kernel
theorem dX7_tellSinking_69 : decode cX7_tellSinking 69 = .ok (.invokevirtual 118, 3) := by decide +kernel
theorem dX7_tellSinking_72 : decode cX7_tellSinking 72 = .ok (.aload_n 2, 1) := by decide +kernel
theorem dX7_tellSinking_73 : decode cX7_tellSinking 73 = .ok (.iload 5, 2) := by decide +kernel
theorem dX7_tellSinking_75 : decode cX7_tellSinking 75 = .ok (.iconst 1, 1) := by decide +kernel
theorem dX7_tellSinking_76 : decode cX7_tellSinking 76 = .ok (.isub, 1) := by decide +kernel
theorem dX7_tellSinking_77 : decode cX7_tellSinking 77 = .ok (.invokevirtual 118, 3) := by decide +kernel
theorem dX7_tellSinking_80 : decode cX7_tellSinking 80 = .ok (.invokestatic 121, 3) := by decide +kernel
theorem dX7_tellSinking_83 : decode cX7_tellSinking 83 = .ok (.istore 8, 2) := by decide +kernel
theorem dX7_tellSinking_85 : decode cX7_tellSinking 85 = .ok (.aload_n 2, 1) := by decide +kernel
theorem dX7_tellSinking_86 : decode cX7_tellSinking 86 = .ok (.iload 5, 2) := by decide +kernel
theorem dX7_tellSinking_88 : decode cX7_tellSinking 88 = .ok (.iload 7, 2) := by decide +kernel
theorem dX7_tellSinking_90 : decode cX7_tellSinking 90 = .ok (.iload 8, 2) := by decide +kernel
theorem dX7_tellSinking_92 : decode cX7_tellSinking 92 = .ok (.bipush 8, 2) := by decide +kernel
theorem dX7_tellSinking_94 : decode cX7_tellSinking 94 = .ok (.isub, 1) := by decide +kernel
theorem dX7_tellSinking_95 : decode cX7_tellSinking 95 = .ok (.invokestatic 121, 3) := by decide +kernel
theorem dX7_tellSinking_98 : decode cX7_tellSinking 98 = .ok (.invokevirtual 168, 3) := by decide +kernel
theorem dX7_tellSinking_101 : decode cX7_tellSinking 101 = .ok (.iinc 4 1, 3) := by decide +kernel
theorem dX7_tellSinking_104 : decode cX7_tellSinking 104 = .ok (.goto (-89), 3) := by decide +kernel
theorem dX7_tellSinking_107 : decode cX7_tellSinking 107 = .ok (.iload_n 3, 1) := by decide +kernel
theorem dX7_tellSinking_108 : decode cX7_tellSinking 108 = .ok (.iconst 1, 1) := by decide +kernel
theorem dX7_tellSinking_109 : decode cX7_tellSinking 109 = .ok (.isub, 1) := by decide +kernel
theorem dX7_tellSinking_110 : decode cX7_tellSinking 110 = .ok (.istore 4, 2) := by decide +kernel
theorem dX7_tellSinking_112 : decode cX7_tellSinking 112 = .ok (.iload 4, 2) := by decide +kernel
theorem dX7_tellSinking_114 : decode cX7_tellSinking 114 = .ok (.ifCond .lt 62, 3) := by decide +kernel
theorem dX7_tellSinking_117 : decode cX7_tellSinking 117 = .ok (.aload_n 0, 1) := by decide +kernel
theorem dX7_tellSinking_118 : decode cX7_tellSinking 118 = .ok (.getfield 48, 3) := by decide +kernel
theorem dX7_tellSinking_121 : decode cX7_tellSinking 121 = .ok (.iload 4, 2) := by decide +kernel
theorem dX7_tellSinking_123 : decode cX7_tellSinking 123 = .ok (.invokevirtual 130, 3) := by decide +kernel
theorem dX7_tellSinking_126 : decode cX7_tellSinking 126 = .ok (.istore 5, 2) := by decide +kernel
theorem dX7_tellSinking_128 : decode cX7_tellSinking 128 = .ok (.aload_n 2, 1) := by decide +kernel
theorem dX7_tellSinking_129 : decode cX7_tellSinking 129 = .ok (.iload 5, 2) := by decide +kernel
theorem dX7_tellSinking_131 : decode cX7_tellSinking 131 = .ok (.bipush 10, 2) := by decide +kernel
theorem dX7_tellSinking_133 : decode cX7_tellSinking 133 = .ok (.iadd, 1) := by decide +kernel
theorem dX7_tellSinking_134 : decode cX7_tellSinking 134 = .ok (.invokevirtual 118, 3) := by decide +kernel
theorem dX7_tellSinking_137 : decode cX7_tellSinking 137 = .ok (.aload_n 2, 1) := by decide +kernel
theorem dX7_tellSinking_138 : decode cX7_tellSinking 138 = .ok (.iload 5, 2) := by decide +kernel
theorem dX7_tellSinking_140 : decode cX7_tellSinking 140 = .ok (.iconst 1, 1) := by decide +kernel
theorem dX7_tellSinking_141 : decode cX7_tellSinking 141 = .ok (.iadd, 1) := by decide +kernel
theorem dX7_tellSinking_142 : decode cX7_tellSinking 142 = .ok (.invokevirtual 118, 3) := by decide +kernel
theorem dX7_tellSinking_145 : decode cX7_tellSinking 145 = .ok (.invokestatic 121, 3) := by decide +kernel
theorem dX7_tellSinking_148 : decode cX7_tellSinking 148 = .ok (.istore 6, 2) := by decide +kernel
theorem dX7_tellSinking_150 : decode cX7_tellSinking 150 = .ok (.aload_n 2, 1) := by decide +kernel
theorem dX7_tellSinking_151 : decode cX7_tellSinking 151 = .ok (.iload 5, 2) := by decide +kernel
theorem dX7_tellSinking_153 : decode cX7_tellSinking 153 = .ok (.aload_n 2, 1) := by decide +kernel
theorem dX7_tellSinking_154 : decode cX7_tellSinking 154 = .ok (.iload 5, 2) := by decide +kernel
theorem dX7_tellSinking_156 : decode cX7_tellSinking 156 = .ok (.invokevirtual 118, 3) := by decide +kernel
theorem dX7_tellSinking_159 : decode cX7_tellSinking 159 = .ok (.iload 6, 2) := by decide +kernel
theorem dX7_tellSinking_161 : decode cX7_tellSinking 161 = .ok (.bipush 8, 2) := by decide +kernel
theorem dX7_tellSinking_163 : decode cX7_tellSinking 163 = .ok (.isub, 1) := by decide +kernel
theorem dX7_tellSinking_164 : decode cX7_tellSinking 164 = .ok (.invokestatic 121, 3) := by decide +kernel
theorem dX7_tellSinking_167 : decode cX7_tellSinking 167 = .ok (.invokevirtual 168, 3) := by decide +kernel
theorem dX7_tellSinking_170 : decode cX7_tellSinking 170 = .ok (.iinc 4 (-1), 3) := by decide +kernel
theorem dX7_tellSinking_173 : decode cX7_tellSinking 173 = .ok (.goto (-61), 3) := by decide +kernel
theorem dX7_tellSinking_176 : decode cX7_tellSinking 176 = .ok (.return_, 1) := by decide +kernel
theorem dX7_slopesGently_0 : decode cX7_slopesGently 0 = .ok (.iconst 0, 1) := by decide +kernel
theorem dX7_slopesGently_1 : decode cX7_slopesGently 1 = .ok (.istore_n 2, 1) := by decide +kernel
theorem dX7_slopesGently_2 : decode cX7_slopesGently 2 = .ok (.iload_n 2, 1) := by decide +kernel
theorem dX7_slopesGently_3 : decode cX7_slopesGently 3 = .ok (.aload_n 0, 1) := by decide +kernel
theorem dX7_slopesGently_4 : decode cX7_slopesGently 4 = .ok (.getfield 48, 3) := by decide +kernel
theorem dX7_slopesGently_7 : decode cX7_slopesGently 7 = .ok (.invokevirtual 127, 3) := by decide +kernel
theorem dX7_slopesGently_10 : decode cX7_slopesGently 10 = .ok (.if_icmp .ge 82, 3) := by decide +kernel
theorem dX7_slopesGently_13 : decode cX7_slopesGently 13 = .ok (.aload_n 0, 1) := by decide +kernel
theorem dX7_slopesGently_14 : decode cX7_slopesGently 14 = .ok (.getfield 48, 3) := by decide +kernel
theorem dX7_slopesGently_17 : decode cX7_slopesGently 17 = .ok (.iload_n 2, 1) := by decide +kernel
theorem dX7_slopesGently_18 : decode cX7_slopesGently 18 = .ok (.invokevirtual 130, 3) := by decide +kernel
theorem dX7_slopesGently_21 : decode cX7_slopesGently 21 = .ok (.istore_n 3, 1) := by decide +kernel
theorem dX7_slopesGently_22 : decode cX7_slopesGently 22 = .ok (.iload_n 3, 1) := by decide +kernel
theorem dX7_slopesGently_23 : decode cX7_slopesGently 23 = .ok (.bipush 10, 2) := by decide +kernel
theorem dX7_slopesGently_25 : decode cX7_slopesGently 25 = .ok (.irem, 1) := by decide +kernel
theorem dX7_slopesGently_26 : decode cX7_slopesGently 26 = .ok (.istore 4, 2) := by decide +kernel
theorem dX7_slopesGently_28 : decode cX7_slopesGently 28 = .ok (.iload 4, 2) := by decide +kernel
theorem dX7_slopesGently_30 : decode cX7_slopesGently 30 = .ok (.ifCond .le 26, 3) := by decide +kernel
theorem dX7_slopesGently_33 : decode cX7_slopesGently 33 = .ok (.aload_n 1, 1) := by decide +kernel
theorem dX7_slopesGently_34 : decode cX7_slopesGently 34 = .ok (.iload_n 3, 1) := by decide +kernel
theorem dX7_slopesGently_35 : decode cX7_slopesGently 35 = .ok (.invokevirtual 118, 3) := by decide +kernel
theorem dX7_slopesGently_38 : decode cX7_slopesGently 38 = .ok (.aload_n 1, 1) := by decide +kernel
theorem dX7_slopesGently_39 : decode cX7_slopesGently 39 = .ok (.iload_n 3, 1) := by decide +kernel
theorem dX7_slopesGently_40 : decode cX7_slopesGently 40 = .ok (.iconst 1, 1) := by decide +kernel
theorem dX7_slopesGently_41 : decode cX7_slopesGently 41 = .ok (.isub, 1) := by decide +kernel
theorem dX7_slopesGently_42 : decode cX7_slopesGently 42 = .ok (.invokevirtual 118, 3) := by decide +kernel
theorem dX7_slopesGently_45 : decode cX7_slopesGently 45 = .ok (.isub, 1) := by decide +kernel
theorem dX7_slopesGently_46 : decode cX7_slopesGently 46 = .ok (.invokestatic 140, 3) := by decide +kernel
theorem dX7_slopesGently_49 : decode cX7_slopesGently 49 = .ok (.bipush 8, 2) := by decide +kernel
theorem dX7_slopesGently_51 : decode cX7_slopesGently 51 = .ok (.if_icmp .le 5, 3) := by decide +kernel
theorem dX7_slopesGently_54 : decode cX7_slopesGently 54 = .ok (.iconst 0, 1) := by decide +kernel
theorem dX7_slopesGently_55 : decode cX7_slopesGently 55 = .ok (.ireturn, 1) := by decide +kernel
theorem dX7_slopesGently_56 : decode cX7_slopesGently 56 = .ok (.iload_n 3, 1) := by decide +kernel
theorem dX7_slopesGently_57 : decode cX7_slopesGently 57 = .ok (.bipush 10, 2) := by decide +kernel
theorem dX7_slopesGently_59 : decode cX7_slopesGently 59 = .ok (.if_icmp .lt 27, 3) := by decide +kernel
theorem dX7_slopesGently_62 : decode cX7_slopesGently 62 = .ok (.aload_n 1, 1) := by decide +kernel
theorem dX7_slopesGently_63 : decode cX7_slopesGently 63 = .ok (.iload_n 3, 1) := by decide +kernel
theorem dX7_slopesGently_64 : decode cX7_slopesGently 64 = .ok (.invokevirtual 118, 3) := by decide +kernel
theorem dX7_slopesGently_67 : decode cX7_slopesGently 67 = .ok (.aload_n 1, 1) := by decide +kernel
theorem dX7_slopesGently_68 : decode cX7_slopesGently 68 = .ok (.iload_n 3, 1) := by decide +kernel
theorem dX7_slopesGently_69 : decode cX7_slopesGently 69 = .ok (.bipush 10, 2) := by decide +kernel
theorem dX7_slopesGently_71 : decode cX7_slopesGently 71 = .ok (.isub, 1) := by decide +kernel
theorem dX7_slopesGently_72 : decode cX7_slopesGently 72 = .ok (.invokevirtual 118, 3) := by decide +kernel
theorem dX7_slopesGently_75 : decode cX7_slopesGently 75 = .ok (.isub, 1) := by decide +kernel
theorem dX7_slopesGently_76 : decode cX7_slopesGently 76 = .ok (.invokestatic 140, 3) := by decide +kernel
theorem dX7_slopesGently_79 : decode cX7_slopesGently 79 = .ok (.bipush 8, 2) := by decide +kernel
theorem dX7_slopesGently_81 : decode cX7_slopesGently 81 = .ok (.if_icmp .le 5, 3) := by decide +kernel
theorem dX7_slopesGently_84 : decode cX7_slopesGently 84 = .ok (.iconst 0, 1) := by decide +kernel
theorem dX7_slopesGently_85 : decode cX7_slopesGently 85 = .ok (.ireturn, 1) := by decide +kernel
theorem dX7_slopesGently_86 : decode cX7_slopesGently 86 = .ok (.iinc 2 1, 3) := by decide +kernel
theorem dX7_slopesGently_89 : decode cX7_slopesGently 89 = .ok (.goto (-87), 3) := by decide +kernel
theorem dX7_slopesGently_92 : decode cX7_slopesGently 92 = .ok (.iconst 1, 1) := by decide +kernel
theorem dX7_slopesGently_93 : decode cX7_slopesGently 93 = .ok (.ireturn, 1) := by decide +kernel
theorem dX8_init_0 : decode cX8_init 0 = .ok (.aload_n 0, 1) := by decide +kernel
theorem dX8_init_1 : decode cX8_init 1 = .ok (.invokespecial 3, 3) := by decide +kernel
theorem dX8_init_4 : decode cX8_init 4 = .ok (.aload_n 0, 1) := by decide +kernel
theorem dX8_init_5 : decode cX8_init 5 = .ok (.bipush 9, 2) := by decide +kernel
theorem dX8_init_7 : decode cX8_init 7 = .ok (.newarray .char, 2) := by decide +kernel
theorem dX8_init_9 : decode cX8_init 9 = .ok (.putfield 9, 3) := by decide +kernel
theorem dX8_init_12 : decode cX8_init 12 = .ok (.return_, 1) := by decide +kernel
theorem dX8_letterAt_0 : decode cX8_letterAt 0 = .ok (.iload_n 1, 1) := by decide +kernel
theorem dX8_letterAt_1 : decode cX8_letterAt 1 = .ok (.ifCond .lt 29, 3) := by decide +kernel
theorem dX8_letterAt_4 : decode cX8_letterAt 4 = .ok (.iload_n 1, 1) := by decide +kernel
theorem dX8_letterAt_5 : decode cX8_letterAt 5 = .ok (.aload_n 0, 1) := by decide +kernel
theorem dX8_letterAt_6 : decode cX8_letterAt 6 = .ok (.getfield 15, 3) := by decide +kernel
theorem dX8_letterAt_9 : decode cX8_letterAt 9 = .ok (.if_icmp .ge 21, 3) := by decide +kernel
theorem dX8_letterAt_12 : decode cX8_letterAt 12 = .ok (.iload_n 1, 1) := by decide +kernel
theorem dX8_letterAt_13 : decode cX8_letterAt 13 = .ok (.aload_n 0, 1) := by decide +kernel
theorem dX8_letterAt_14 : decode cX8_letterAt 14 = .ok (.getfield 9, 3) := by decide +kernel
theorem dX8_letterAt_17 : decode cX8_letterAt 17 = .ok (.arraylength, 1) := by decide +kernel
theorem dX8_letterAt_18 : decode cX8_letterAt 18 = .ok (.if_icmp .ge 12, 3) := by decide +kernel
theorem dX8_letterAt_21 : decode cX8_letterAt 21 = .ok (.aload_n 0, 1) := by decide +kernel
theorem dX8_letterAt_22 : decode cX8_letterAt 22 = .ok (.getfield 9, 3) := by decide +kernel
theorem dX8_letterAt_25 : decode cX8_letterAt 25 = .ok (.iload_n 1, 1) := by decide +kernel
theorem dX8_letterAt_26 : decode cX8_letterAt 26 = .ok (.caload, 1) := by decide +kernel
theorem dX8_letterAt_27 : decode cX8_letterAt 27 = .ok (.goto 5, 3) := by decide +kernel
theorem dX8_letterAt_30 : decode cX8_letterAt 30 = .ok (.bipush 32, 2) := by decide +kernel
theorem dX8_letterAt_32 : decode cX8_letterAt 32 = .ok (.ireturn, 1) := by decide +kernel
theorem dX8_last_0 : decode cX8_last 0 = .ok (.aload_n 0, 1) := by decide +kernel
theorem dX8_last_1 : decode cX8_last 1 = .ok (.aload_n 0, 1) := by decide +kernel
theorem dX8_last_2 : decode cX8_last 2 = .ok (.getfield 15, 3) := by decide +kernel
theorem dX8_last_5 : decode cX8_last 5 = .ok (.iconst 1, 1) := by decide +kernel
theorem dX8_last_6 : decode cX8_last 6 = .ok (.isub, 1) := by decide +kernel
theorem dX8_last_7 : decode cX8_last 7 = .ok (.invokevirtual 19, 3) := by decide +kernel
theorem dX8_last_10 : decode cX8_last 10 = .ok (.ireturn, 1) := by decide +kernel
theorem dX8_allSigned_0 : decode cX8_allSigned 0 = .ok (.aload_n 0, 1) := by decide +kernel
theorem dX8_allSigned_1 : decode cX8_allSigned 1 = .ok (.getfield 23, 3) := by decide +kernel
theorem dX8_allSigned_4 : decode cX8_allSigned 4 = .ok (.aload_n 0, 1) := by decide +kernel
theorem dX8_allSigned_5 : decode cX8_allSigned 5 = .ok (.getfield 15, 3) := by decide +kernel
theorem dX8_allSigned_8 : decode cX8_allSigned 8 = .ok (.if_icmp .ne 7, 3) := by decide +kernel
theorem dX8_allSigned_11 : decode cX8_allSigned 11 = .ok (.iconst 1, 1) := by decide +kernel
theorem dX8_allSigned_12 : decode cX8_allSigned 12 = .ok (.goto 4, 3) := by decide +kernel
theorem dX8_allSigned_15 : decode cX8_allSigned 15 = .ok (.iconst 0, 1) := by decide +kernel
theorem dX8_allSigned_16 : decode cX8_allSigned 16 = .ok (.ireturn, 1) := by decide +kernel
theorem dX8_mayCome_0 : decode cX8_mayCome 0 = .ok (.aload_n 0, 1) := by decide +kernel
theorem dX8_mayCome_1 : decode cX8_mayCome 1 = .ok (.invokevirtual 26, 3) := by decide +kernel
theorem dX8_mayCome_4 : decode cX8_mayCome 4 = .ok (.ifCond .eq 19, 3) := by decide +kernel
theorem dX8_mayCome_7 : decode cX8_mayCome 7 = .ok (.aload_n 0, 1) := by decide +kernel
theorem dX8_mayCome_8 : decode cX8_mayCome 8 = .ok (.aload_n 0, 1) := by decide +kernel
theorem dX8_mayCome_9 : decode cX8_mayCome 9 = .ok (.getfield 15, 3) := by decide +kernel
theorem dX8_mayCome_12 : decode cX8_mayCome 12 = .ok (.iload_n 1, 1) := by decide +kernel
theorem dX8_mayCome_13 : decode cX8_mayCome 13 = .ok (.invokevirtual 30, 3) := by decide +kernel
theorem dX8_mayCome_16 : decode cX8_mayCome 16 = .ok (.ifCond .eq 7, 3) := by decide +kernel
theorem dX8_mayCome_19 : decode cX8_mayCome 19 = .ok (.iconst 1, 1) := by decide +kernel
theorem dX8_mayCome_20 : decode cX8_mayCome 20 = .ok (.goto 4, 3) := by decide +kernel
theorem dX8_mayCome_23 : decode cX8_mayCome 23 = .ok (.iconst 0, 1) := by decide +kernel
theorem dX8_mayCome_24 : decode cX8_mayCome 24 = .ok (.ireturn, 1) := by decide +kernel
theorem dX8_add_0 : decode cX8_add 0 = .ok (.aload_n 0, 1) := by decide +kernel
theorem dX8_add_1 : decode cX8_add 1 = .ok (.getfield 15, 3) := by decide +kernel
theorem dX8_add_4 : decode cX8_add 4 = .ok (.aload_n 0, 1) := by decide +kernel
theorem dX8_add_5 : decode cX8_add 5 = .ok (.getfield 9, 3) := by decide +kernel
theorem dX8_add_8 : decode cX8_add 8 = .ok (.arraylength, 1) := by decide +kernel
theorem dX8_add_9 : decode cX8_add 9 = .ok (.if_icmp .ge 23, 3) := by decide +kernel
theorem dX8_add_12 : decode cX8_add 12 = .ok (.aload_n 0, 1) := by decide +kernel
theorem dX8_add_13 : decode cX8_add 13 = .ok (.getfield 9, 3) := by decide +kernel
theorem dX8_add_16 : decode cX8_add 16 = .ok (.aload_n 0, 1) := by decide +kernel
theorem dX8_add_17 : decode cX8_add 17 = .ok (.getfield 15, 3) := by decide +kernel
theorem dX8_add_20 : decode cX8_add 20 = .ok (.iload_n 1, 1) := by decide +kernel
theorem dX8_add_21 : decode cX8_add 21 = .ok (.castore, 1) := by decide +kernel
theorem dX8_add_22 : decode cX8_add 22 = .ok (.aload_n 0, 1) := by decide +kernel
theorem dX8_add_23 : decode cX8_add 23 = .ok (.dup, 1) := by decide +kernel
theorem dX8_add_24 : decode cX8_add 24 = .ok (.getfield 15, 3) := by decide +kernel
theorem dX8_add_27 : decode cX8_add 27 = .ok (.iconst 1, 1) := by decide +kernel
theorem dX8_add_28 : decode cX8_add 28 = .ok (.iadd, 1) := by decide +kernel
theorem dX8_add_29 : decode cX8_add 29 = .ok (.putfield 15, 3) := by decide +kernel
theorem dX8_add_32 : decode cX8_add 32 = .ok (.aload_n 0, 1) := by decide +kernel
theorem dX8_add_33 : decode cX8_add 33 = .ok (.getfield 15, 3) := by decide +kernel
theorem dX8_add_36 : decode cX8_add 36 = .ok (.iconst 1, 1) := by decide +kernel
theorem dX8_add_37 : decode cX8_add 37 = .ok (.isub, 1) := by decide +kernel
theorem dX8_add_38 : decode cX8_add 38 = .ok (.ireturn, 1) := by decide +kernel
theorem dX8_signLast_0 : decode cX8_signLast 0 = .ok (.aload_n 0, 1) := by decide +kernel
theorem dX8_signLast_1 : decode cX8_signLast 1 = .ok (.aload_n 0, 1) := by decide +kernel
theorem dX8_signLast_2 : decode cX8_signLast 2 = .ok (.getfield 15, 3) := by decide +kernel
theorem dX8_signLast_5 : decode cX8_signLast 5 = .ok (.putfield 23, 3) := by decide +kernel
theorem dX8_signLast_8 : decode cX8_signLast 8 = .ok (.aload_n 0, 1) := by decide +kernel
theorem dX8_signLast_9 : decode cX8_signLast 9 = .ok (.getfield 23, 3) := by decide +kernel
theorem dX8_signLast_12 : decode cX8_signLast 12 = .ok (.ireturn, 1) := by decide +kernel
theorem dX8_takeLast_0 : decode cX8_takeLast 0 = .ok (.aload_n 0, 1) := by decide +kernel
theorem dX8_takeLast_1 : decode cX8_takeLast 1 = .ok (.invokevirtual 34, 3) := by decide +kernel
theorem dX8_takeLast_4 : decode cX8_takeLast 4 = .ok (.istore_n 1, 1) := by decide +kernel
theorem dX8_takeLast_5 : decode cX8_takeLast 5 = .ok (.aload_n 0, 1) := by decide +kernel
theorem dX8_takeLast_6 : decode cX8_takeLast 6 = .ok (.iconst 0, 1) := by decide +kernel
theorem dX8_takeLast_7 : decode cX8_takeLast 7 = .ok (.aload_n 0, 1) := by decide +kernel
theorem dX8_takeLast_8 : decode cX8_takeLast 8 = .ok (.getfield 15, 3) := by decide +kernel
theorem dX8_takeLast_11 : decode cX8_takeLast 11 = .ok (.iconst 1, 1) := by decide +kernel
theorem dX8_takeLast_12 : decode cX8_takeLast 12 = .ok (.isub, 1) := by decide +kernel
theorem dX8_takeLast_13 : decode cX8_takeLast 13 = .ok (.invokestatic 38, 3) := by decide +kernel
theorem dX8_takeLast_16 : decode cX8_takeLast 16 = .ok (.putfield 15, 3) := by decide +kernel
theorem dX8_takeLast_19 : decode cX8_takeLast 19 = .ok (.aload_n 0, 1) := by decide +kernel
theorem dX8_takeLast_20 : decode cX8_takeLast 20 = .ok (.aload_n 0, 1) := by decide +kernel
theorem dX8_takeLast_21 : decode cX8_takeLast 21 = .ok (.getfield 23, 3) := by decide +kernel
theorem dX8_takeLast_24 : decode cX8_takeLast 24 = .ok (.aload_n 0, 1) := by decide +kernel
theorem dX8_takeLast_25 : decode cX8_takeLast 25 = .ok (.getfield 15, 3) := by decide +kernel
theorem dX8_takeLast_28 : decode cX8_takeLast 28 = .ok (.invokestatic 44, 3) := by decide +kernel
theorem dX8_takeLast_31 : decode cX8_takeLast 31 = .ok (.putfield 23, 3) := by decide +kernel
theorem dX8_takeLast_34 : decode cX8_takeLast 34 = .ok (.iload_n 1, 1) := by decide +kernel
theorem dX8_takeLast_35 : decode cX8_takeLast 35 = .ok (.ireturn, 1) := by decide +kernel
theorem dX8_areInOrder_0 : decode cX8_areInOrder 0 = .ok (.iconst 0, 1) := by decide +kernel
theorem dX8_areInOrder_1 : decode cX8_areInOrder 1 = .ok (.istore_n 1, 1) := by decide +kernel
theorem dX8_areInOrder_2 : decode cX8_areInOrder 2 = .ok (.iload_n 1, 1) := by decide +kernel
theorem dX8_areInOrder_3 : decode cX8_areInOrder 3 = .ok (.aload_n 0, 1) := by decide +kernel
theorem dX8_areInOrder_4 : decode cX8_areInOrder 4 = .ok (.getfield 15, 3) := by decide +kernel
theorem dX8_areInOrder_7 : decode cX8_areInOrder 7 = .ok (.if_icmp .ge 24, 3) := by decide +kernel
theorem dX8_areInOrder_10 : decode cX8_areInOrder 10 = .ok (.aload_n 0, 1) := by decide +kernel
theorem dX8_areInOrder_11 : decode cX8_areInOrder 11 = .ok (.iload_n 1, 1) := by decide +kernel
theorem dX8_areInOrder_12 : decode cX8_areInOrder 12 = .ok (.aload_n 0, 1) := by decide +kernel
theorem dX8_areInOrder_13 : decode cX8_areInOrder 13 = .ok (.iload_n 1, 1) := by decide +kernel
theorem dX8_areInOrder_14 : decode cX8_areInOrder 14 = .ok (.invokevirtual 19, 3) := by decide +kernel
theorem dX8_areInOrder_17 : decode cX8_areInOrder 17 = .ok (.invokevirtual 30, 3) := by decide +kernel
theorem dX8_areInOrder_20 : decode cX8_areInOrder 20 = .ok (.ifCond .ne 5, 3) := by decide +kernel
theorem dX8_areInOrder_23 : decode cX8_areInOrder 23 = .ok (.iconst 0, 1) := by decide +kernel
theorem dX8_areInOrder_24 : decode cX8_areInOrder 24 = .ok (.ireturn, 1) := by decide +kernel
theorem dX8_areInOrder_25 : decode cX8_areInOrder 25 = .ok (.iinc 1 1, 3) := by decide +kernel
theorem dX8_areInOrder_28 : decode cX8_areInOrder 28 = .ok (.goto (-26), 3) := by decide +kernel
theorem dX8_areInOrder_31 : decode cX8_areInOrder 31 = .ok (.aload_n 0, 1) := by decide +kernel
theorem dX8_areInOrder_32 : decode cX8_areInOrder 32 = .ok (.getfield 23, 3) := by decide +kernel
theorem dX8_areInOrder_35 : decode cX8_areInOrder 35 = .ok (.aload_n 0, 1) := by decide +kernel
theorem dX8_areInOrder_36 : decode cX8_areInOrder 36 = .ok (.getfield 15, 3) := by decide +kernel
theorem dX8_areInOrder_39 : decode cX8_areInOrder 39 = .ok (.if_icmp .eq 16, 3) := by decide +kernel
theorem dX8_areInOrder_42 : decode cX8_areInOrder 42 = .ok (.aload_n 0, 1) := by decide +kernel
theorem dX8_areInOrder_43 : decode cX8_areInOrder 43 = .ok (.getfield 23, 3) := by decide +kernel
theorem dX8_areInOrder_46 : decode cX8_areInOrder 46 = .ok (.aload_n 0, 1) := by decide +kernel
theorem dX8_areInOrder_47 : decode cX8_areInOrder 47 = .ok (.getfield 15, 3) := by decide +kernel
theorem dX8_areInOrder_50 : decode cX8_areInOrder 50 = .ok (.iconst 1, 1) := by decide +kernel
theorem dX8_areInOrder_51 : decode cX8_areInOrder 51 = .ok (.isub, 1) := by decide +kernel
theorem dX8_areInOrder_52 : decode cX8_areInOrder 52 = .ok (.if_icmp .ne 7, 3) := by decide +kernel
theorem dX8_areInOrder_55 : decode cX8_areInOrder 55 = .ok (.iconst 1, 1) := by decide +kernel
theorem dX8_areInOrder_56 : decode cX8_areInOrder 56 = .ok (.goto 4, 3) := by decide +kernel
theorem dX8_areInOrder_59 : decode cX8_areInOrder 59 = .ok (.iconst 0, 1) := by decide +kernel
theorem dX8_areInOrder_60 : decode cX8_areInOrder 60 = .ok (.ireturn, 1) := by decide +kernel
theorem dX8_mayFollow_0 : decode cX8_mayFollow 0 = .ok (.aload_n 0, 1) := by decide +kernel
theorem dX8_mayFollow_1 : decode cX8_mayFollow 1 = .ok (.iload_n 1, 1) := by decide +kernel
theorem dX8_mayFollow_2 : decode cX8_mayFollow 2 = .ok (.iconst 1, 1) := by decide +kernel
theorem dX8_mayFollow_3 : decode cX8_mayFollow 3 = .ok (.isub, 1) := by decide +kernel
theorem dX8_mayFollow_4 : decode cX8_mayFollow 4 = .ok (.invokevirtual 19, 3) := by decide +kernel
theorem dX8_mayFollow_7 : decode cX8_mayFollow 7 = .ok (.istore_n 3, 1) := by decide +kernel
theorem dX8_mayFollow_8 : decode cX8_mayFollow 8 = .ok (.iload_n 2, 1) := by decide +kernel
theorem dX8_mayFollow_9 : decode cX8_mayFollow 9 = .ok (.bipush 119, 2) := by decide +kernel
theorem dX8_mayFollow_11 : decode cX8_mayFollow 11 = .ok (.if_icmp .ne 13, 3) := by decide +kernel
theorem dX8_mayFollow_14 : decode cX8_mayFollow 14 = .ok (.iload_n 1, 1) := by decide +kernel
theorem dX8_mayFollow_15 : decode cX8_mayFollow 15 = .ok (.ifCond .ne 7, 3) := by decide +kernel
theorem dX8_mayFollow_18 : decode cX8_mayFollow 18 = .ok (.iconst 1, 1) := by decide +kernel
theorem dX8_mayFollow_19 : decode cX8_mayFollow 19 = .ok (.goto 4, 3) := by decide +kernel
theorem dX8_mayFollow_22 : decode cX8_mayFollow 22 = .ok (.iconst 0, 1) := by decide +kernel
theorem dX8_mayFollow_23 : decode cX8_mayFollow 23 = .ok (.ireturn, 1) := by decide +kernel
theorem dX8_mayFollow_24 : decode cX8_mayFollow 24 = .ok (.iload_n 2, 1) := by decide +kernel
theorem dX8_mayFollow_25 : decode cX8_mayFollow 25 = .ok (.bipush 115, 2) := by decide +kernel
theorem dX8_mayFollow_27 : decode cX8_mayFollow 27 = .ok (.if_icmp .ne 15, 3) := by decide +kernel
theorem dX8_mayFollow_30 : decode cX8_mayFollow 30 = .ok (.iload_n 3, 1) := by decide +kernel
theorem dX8_mayFollow_31 : decode cX8_mayFollow 31 = .ok (.bipush 119, 2) := by decide +kernel
theorem dX8_mayFollow_33 : decode cX8_mayFollow 33 = .ok (.if_icmp .ne 7, 3) := by decide +kernel
theorem dX8_mayFollow_36 : decode cX8_mayFollow 36 = .ok (.iconst 1, 1) := by decide +kernel
theorem dX8_mayFollow_37 : decode cX8_mayFollow 37 = .ok (.goto 4, 3) := by decide +kernel
theorem dX8_mayFollow_40 : decode cX8_mayFollow 40 = .ok (.iconst 0, 1) := by decide +kernel
theorem dX8_mayFollow_41 : decode cX8_mayFollow 41 = .ok (.ireturn, 1) := by decide +kernel
theorem dX8_mayFollow_42 : decode cX8_mayFollow 42 = .ok (.iload_n 2, 1) := by decide +kernel
theorem dX8_mayFollow_43 : decode cX8_mayFollow 43 = .ok (.bipush 116, 2) := by decide +kernel
theorem dX8_mayFollow_45 : decode cX8_mayFollow 45 = .ok (.if_icmp .ne 15, 3) := by decide +kernel
theorem dX8_mayFollow_48 : decode cX8_mayFollow 48 = .ok (.iload_n 3, 1) := by decide +kernel
theorem dX8_mayFollow_49 : decode cX8_mayFollow 49 = .ok (.bipush 115, 2) := by decide +kernel
theorem dX8_mayFollow_51 : decode cX8_mayFollow 51 = .ok (.if_icmp .ne 7, 3) := by decide +kernel
theorem dX8_mayFollow_54 : decode cX8_mayFollow 54 = .ok (.iconst 1, 1) := by decide +kernel
theorem dX8_mayFollow_55 : decode cX8_mayFollow 55 = .ok (.goto 4, 3) := by decide +kernel
theorem dX8_mayFollow_58 : decode cX8_mayFollow 58 = .ok (.iconst 0, 1) := by decide +kernel
theorem dX8_mayFollow_59 : decode cX8_mayFollow 59 = .ok (.ireturn, 1) := by decide +kernel
theorem dX8_mayFollow_60 : decode cX8_mayFollow 60 = .ok (.iload_n 2, 1) := by decide +kernel
theorem dX8_mayFollow_61 : decode cX8_mayFollow 61 = .ok (.bipush 108, 2) := by decide +kernel
theorem dX8_mayFollow_63 : decode cX8_mayFollow 63 = .ok (.if_icmp .ne 36, 3) := by decide +kernel
theorem dX8_mayFollow_66 : decode cX8_mayFollow 66 = .ok (.iload_n 3, 1) := by decide +kernel
theorem dX8_mayFollow_67 : decode cX8_mayFollow 67 = .ok (.bipush 115, 2) := by decide +kernel
theorem dX8_mayFollow_69 : decode cX8_mayFollow 69 = .ok (.if_icmp .eq 15, 3) := by decide +kernel
theorem dX8_mayFollow_72 : decode cX8_mayFollow 72 = .ok (.iload_n 3, 1) := by decide +kernel
theorem dX8_mayFollow_73 : decode cX8_mayFollow 73 = .ok (.bipush 116, 2) := by decide +kernel
theorem dX8_mayFollow_75 : decode cX8_mayFollow 75 = .ok (.if_icmp .eq 9, 3) := by decide +kernel
theorem dX8_mayFollow_78 : decode cX8_mayFollow 78 = .ok (.iload_n 3, 1) := by decide +kernel
theorem dX8_mayFollow_79 : decode cX8_mayFollow 79 = .ok (.bipush 108, 2) := by decide +kernel
theorem dX8_mayFollow_81 : decode cX8_mayFollow 81 = .ok (.if_icmp .ne 16, 3) := by decide +kernel
theorem dX8_mayFollow_84 : decode cX8_mayFollow 84 = .ok (.aload_n 0, 1) := by decide +kernel
theorem dX8_mayFollow_85 : decode cX8_mayFollow 85 = .ok (.iload_n 1, 1) := by decide +kernel
theorem dX8_mayFollow_86 : decode cX8_mayFollow 86 = .ok (.invokevirtual 47, 3) := by decide +kernel
theorem dX8_mayFollow_89 : decode cX8_mayFollow 89 = .ok (.iconst 4, 1) := by decide +kernel
theorem dX8_mayFollow_90 : decode cX8_mayFollow 90 = .ok (.if_icmp .ge 7, 3) := by decide +kernel
theorem dX8_mayFollow_93 : decode cX8_mayFollow 93 = .ok (.iconst 1, 1) := by decide +kernel
theorem dX8_mayFollow_94 : decode cX8_mayFollow 94 = .ok (.goto 4, 3) := by decide +kernel
theorem dX8_mayFollow_97 : decode cX8_mayFollow 97 = .ok (.iconst 0, 1) := by decide +kernel
theorem dX8_mayFollow_98 : decode cX8_mayFollow 98 = .ok (.ireturn, 1) := by decide +kernel
theorem dX8_mayFollow_99 : decode cX8_mayFollow 99 = .ok (.iload_n 2, 1) := by decide +kernel
theorem dX8_mayFollow_100 : decode cX8_mayFollow 100 = .ok (.bipush 98, 2) := by decide +kernel
theorem dX8_mayFollow_102 : decode cX8_mayFollow 102 = .ok (.if_icmp .ne 15, 3) := by decide +kernel
theorem dX8_mayFollow_105 : decode cX8_mayFollow 105 = .ok (.iload_n 3, 1) := by decide +kernel
theorem dX8_mayFollow_106 : decode cX8_mayFollow 106 = .ok (.bipush 108, 2) := by decide +kernel
theorem dX8_mayFollow_108 : decode cX8_mayFollow 108 = .ok (.if_icmp .ne 7, 3) := by decide +kernel
theorem dX8_mayFollow_111 : decode cX8_mayFollow 111 = .ok (.iconst 1, 1) := by decide +kernel
theorem dX8_mayFollow_112 : decode cX8_mayFollow 112 = .ok (.goto 4, 3) := by decide +kernel
theorem dX8_mayFollow_115 : decode cX8_mayFollow 115 = .ok (.iconst 0, 1) := by decide +kernel
theorem dX8_mayFollow_116 : decode cX8_mayFollow 116 = .ok (.ireturn, 1) := by decide +kernel
theorem dX8_mayFollow_117 : decode cX8_mayFollow 117 = .ok (.iload_n 2, 1) := by decide +kernel
theorem dX8_mayFollow_118 : decode cX8_mayFollow 118 = .ok (.bipush 99, 2) := by decide +kernel
theorem dX8_mayFollow_120 : decode cX8_mayFollow 120 = .ok (.if_icmp .ne 19, 3) := by decide +kernel
theorem dX8_mayFollow_123 : decode cX8_mayFollow 123 = .ok (.iload_n 3, 1) := by decide +kernel
theorem dX8_mayFollow_124 : decode cX8_mayFollow 124 = .ok (.bipush 108, 2) := by decide +kernel
theorem dX8_mayFollow_126 : decode cX8_mayFollow 126 = .ok (.if_icmp .eq 9, 3) := by decide +kernel
theorem dX8_mayFollow_129 : decode cX8_mayFollow 129 = .ok (.iload_n 3, 1) := by decide +kernel
theorem dX8_mayFollow_130 : decode cX8_mayFollow 130 = .ok (.bipush 98, 2) := by decide +kernel
theorem dX8_mayFollow_132 : decode cX8_mayFollow 132 = .ok (.if_icmp .ne 7, 3) := by decide +kernel
theorem dX8_mayFollow_135 : decode cX8_mayFollow 135 = .ok (.iconst 1, 1) := by decide +kernel
theorem dX8_mayFollow_136 : decode cX8_mayFollow 136 = .ok (.goto 4, 3) := by decide +kernel
theorem dX8_mayFollow_139 : decode cX8_mayFollow 139 = .ok (.iconst 0, 1) := by decide +kernel
theorem dX8_mayFollow_140 : decode cX8_mayFollow 140 = .ok (.ireturn, 1) := by decide +kernel
theorem dX8_layersAhead_0 : decode cX8_layersAhead 0 = .ok (.iconst 0, 1) := by decide +kernel
theorem dX8_layersAhead_1 : decode cX8_layersAhead 1 = .ok (.istore_n 2, 1) := by decide +kernel
theorem dX8_layersAhead_2 : decode cX8_layersAhead 2 = .ok (.iconst 0, 1) := by decide +kernel
theorem dX8_layersAhead_3 : decode cX8_layersAhead 3 = .ok (.istore_n 3, 1) := by decide +kernel
theorem dX8_layersAhead_4 : decode cX8_layersAhead 4 = .ok (.iload_n 3, 1) := by decide +kernel
theorem dX8_layersAhead_5 : decode cX8_layersAhead 5 = .ok (.iload_n 1, 1) := by decide +kernel
theorem dX8_layersAhead_6 : decode cX8_layersAhead 6 = .ok (.if_icmp .ge 22, 3) := by decide +kernel
theorem dX8_layersAhead_9 : decode cX8_layersAhead 9 = .ok (.aload_n 0, 1) := by decide +kernel
theorem dX8_layersAhead_10 : decode cX8_layersAhead 10 = .ok (.iload_n 3, 1) := by decide +kernel
theorem dX8_layersAhead_11 : decode cX8_layersAhead 11 = .ok (.invokevirtual 19, 3) := by decide +kernel
theorem dX8_layersAhead_14 : decode cX8_layersAhead 14 = .ok (.bipush 108, 2) := by decide +kernel
theorem dX8_layersAhead_16 : decode cX8_layersAhead 16 = .ok (.if_icmp .ne 6, 3) := by decide +kernel
theorem dX8_layersAhead_19 : decode cX8_layersAhead 19 = .ok (.iinc 2 1, 3) := by decide +kernel
theorem dX8_layersAhead_22 : decode cX8_layersAhead 22 = .ok (.iinc 3 1, 3) := by decide +kernel
theorem dX8_layersAhead_25 : decode cX8_layersAhead 25 = .ok (.goto (-21), 3) := by decide +kernel
theorem dX8_layersAhead_28 : decode cX8_layersAhead 28 = .ok (.iload_n 2, 1) := by decide +kernel
theorem dX8_layersAhead_29 : decode cX8_layersAhead 29 = .ok (.ireturn, 1) := by decide +kernel
theorem dX9_init_0 : decode cX9_init 0 = .ok (.aload_n 0, 1) := by decide +kernel
theorem dX9_init_1 : decode cX9_init 1 = .ok (.invokespecial 1, 3) := by decide +kernel
theorem dX9_init_4 : decode cX9_init 4 = .ok (.aload_n 0, 1) := by decide +kernel
theorem dX9_init_5 : decode cX9_init 5 = .ok (.new 7, 3) := by decide +kernel
theorem dX9_init_8 : decode cX9_init 8 = .ok (.dup, 1) := by decide +kernel
theorem dX9_init_9 : decode cX9_init 9 = .ok (.invokespecial 9, 3) := by decide +kernel
theorem dX9_init_12 : decode cX9_init 12 = .ok (.putfield 10, 3) := by decide +kernel
theorem dX9_init_15 : decode cX9_init 15 = .ok (.aload_n 0, 1) := by decide +kernel
theorem dX9_init_16 : decode cX9_init 16 = .ok (.new 7, 3) := by decide +kernel
theorem dX9_init_19 : decode cX9_init 19 = .ok (.dup, 1) := by decide +kernel
theorem dX9_init_20 : decode cX9_init 20 = .ok (.invokespecial 9, 3) := by decide +kernel
theorem dX9_init_23 : decode cX9_init 23 = .ok (.putfield 16, 3) := by decide +kernel
theorem dX9_init_26 : decode cX9_init 26 = .ok (.aload_n 0, 1) := by decide +kernel
theorem dX9_init_27 : decode cX9_init 27 = .ok (.new 7, 3) := by decide +kernel
theorem dX9_init_30 : decode cX9_init 30 = .ok (.dup, 1) := by decide +kernel
theorem dX9_init_31 : decode cX9_init 31 = .ok (.invokespecial 9, 3) := by decide +kernel
theorem dX9_init_34 : decode cX9_init 34 = .ok (.putfield 19, 3) := by decide +kernel
theorem dX9_init_37 : decode cX9_init 37 = .ok (.aload_n 0, 1) := by decide +kernel
theorem dX9_init_38 : decode cX9_init 38 = .ok (.new 7, 3) := by decide +kernel
theorem dX9_init_41 : decode cX9_init 41 = .ok (.dup, 1) := by decide +kernel
theorem dX9_init_42 : decode cX9_init 42 = .ok (.invokespecial 9, 3) := by decide +kernel
theorem dX9_init_45 : decode cX9_init 45 = .ok (.putfield 22, 3) := by decide +kernel
theorem dX9_init_48 : decode cX9_init 48 = .ok (.aload_n 0, 1) := by decide +kernel
theorem dX9_init_49 : decode cX9_init 49 = .ok (.new 25, 3) := by decide +kernel
theorem dX9_init_52 : decode cX9_init 52 = .ok (.dup, 1) := by decide +kernel
theorem dX9_init_53 : decode cX9_init 53 = .ok (.invokespecial 27, 3) := by decide +kernel
theorem dX9_init_56 : decode cX9_init 56 = .ok (.putfield 28, 3) := by decide +kernel
theorem dX9_init_59 : decode cX9_init 59 = .ok (.aload_n 0, 1) := by decide +kernel
theorem dX9_init_60 : decode cX9_init 60 = .ok (.new 25, 3) := by decide +kernel
theorem dX9_init_63 : decode cX9_init 63 = .ok (.dup, 1) := by decide +kernel
theorem dX9_init_64 : decode cX9_init 64 = .ok (.invokespecial 27, 3) := by decide +kernel
theorem dX9_init_67 : decode cX9_init 67 = .ok (.putfield 32, 3) := by decide +kernel
theorem dX9_init_70 : decode cX9_init 70 = .ok (.iconst 0, 1) := by decide +kernel
theorem dX9_init_71 : decode cX9_init 71 = .ok (.istore_n 1, 1) := by decide +kernel
theorem dX9_init_72 : decode cX9_init 72 = .ok (.iload_n 1, 1) := by decide +kernel
theorem dX9_init_73 : decode cX9_init 73 = .ok (.iconst 4, 1) := by decide +kernel
theorem dX9_init_74 : decode cX9_init 74 = .ok (.if_icmp .ge 24, 3) := by decide +kernel
theorem dX9_init_77 : decode cX9_init 77 = .ok (.aload_n 0, 1) := by decide +kernel
theorem dX9_init_78 : decode cX9_init 78 = .ok (.getfield 22, 3) := by decide +kernel
theorem dX9_init_81 : decode cX9_init 81 = .ok (.new 35, 3) := by decide +kernel
theorem dX9_init_84 : decode cX9_init 84 = .ok (.dup, 1) := by decide +kernel
theorem dX9_init_85 : decode cX9_init 85 = .ok (.invokespecial 37, 3) := by decide +kernel
theorem dX9_init_88 : decode cX9_init 88 = .ok (.invokevirtual 38, 3) := by decide +kernel
theorem dX9_init_91 : decode cX9_init 91 = .ok (.pop, 1) := by decide +kernel
theorem dX9_init_92 : decode cX9_init 92 = .ok (.iinc 1 1, 3) := by decide +kernel
theorem dX9_init_95 : decode cX9_init 95 = .ok (.goto (-23), 3) := by decide +kernel
theorem dX9_init_98 : decode cX9_init 98 = .ok (.return_, 1) := by decide +kernel
theorem dX9_seat_0 : decode cX9_seat 0 = .ok (.iload_n 1, 1) := by decide +kernel
theorem dX9_seat_1 : decode cX9_seat 1 = .ok (.iconst 1, 1) := by decide +kernel
theorem dX9_seat_2 : decode cX9_seat 2 = .ok (.bipush 6, 2) := by decide +kernel
theorem dX9_seat_4 : decode cX9_seat 4 = .ok (.invokestatic 42, 3) := by decide +kernel
theorem dX9_seat_7 : decode cX9_seat 7 = .ok (.iload_n 2, 1) := by decide +kernel
theorem dX9_seat_8 : decode cX9_seat 8 = .ok (.iconst 1, 1) := by decide +kernel
theorem dX9_seat_9 : decode cX9_seat 9 = .ok (.bipush 6, 2) := by decide +kernel
theorem dX9_seat_11 : decode cX9_seat 11 = .ok (.invokestatic 42, 3) := by decide +kernel
theorem dX9_seat_14 : decode cX9_seat 14 = .ok (.aload_n 0, 1) := by decide +kernel
theorem dX9_seat_15 : decode cX9_seat 15 = .ok (.getfield 10, 3) := by decide +kernel
theorem dX9_seat_18 : decode cX9_seat 18 = .ok (.invokevirtual 46, 3) := by decide +kernel
theorem dX9_seat_21 : decode cX9_seat 21 = .ok (.iconst 4, 1) := by decide +kernel
theorem dX9_seat_22 : decode cX9_seat 22 = .ok (.invokestatic 50, 3) := by decide +kernel
theorem dX9_seat_25 : decode cX9_seat 25 = .ok (.aload_n 0, 1) := by decide +kernel
theorem dX9_seat_26 : decode cX9_seat 26 = .ok (.getfield 10, 3) := by decide +kernel
theorem dX9_seat_29 : decode cX9_seat 29 = .ok (.new 54, 3) := by decide +kernel
theorem dX9_seat_32 : decode cX9_seat 32 = .ok (.dup, 1) := by decide +kernel
theorem dX9_seat_33 : decode cX9_seat 33 = .ok (.iload_n 1, 1) := by decide +kernel
theorem dX9_seat_34 : decode cX9_seat 34 = .ok (.iload_n 2, 1) := by decide +kernel
theorem dX9_seat_35 : decode cX9_seat 35 = .ok (.invokespecial 56, 3) := by decide +kernel
theorem dX9_seat_38 : decode cX9_seat 38 = .ok (.invokevirtual 38, 3) := by decide +kernel
theorem dX9_seat_41 : decode cX9_seat 41 = .ok (.pop, 1) := by decide +kernel
theorem dX9_seat_42 : decode cX9_seat 42 = .ok (.aload_n 0, 1) := by decide +kernel
theorem dX9_seat_43 : decode cX9_seat 43 = .ok (.getfield 10, 3) := by decide +kernel
theorem dX9_seat_46 : decode cX9_seat 46 = .ok (.invokevirtual 46, 3) := by decide +kernel
theorem dX9_seat_49 : decode cX9_seat 49 = .ok (.iconst 1, 1) := by decide +kernel
theorem dX9_seat_50 : decode cX9_seat 50 = .ok (.isub, 1) := by decide +kernel
theorem dX9_seat_51 : decode cX9_seat 51 = .ok (.ireturn, 1) := by decide +kernel
theorem dX9_web_0 : decode cX9_web 0 = .ok (.aload_n 0, 1) := by decide +kernel
theorem dX9_web_1 : decode cX9_web 1 = .ok (.iload_n 1, 1) := by decide +kernel
theorem dX9_web_2 : decode cX9_web 2 = .ok (.invokevirtual 58, 3) := by decide +kernel
theorem dX9_web_5 : decode cX9_web 5 = .ok (.astore_n 3, 1) := by decide +kernel
theorem dX9_web_6 : decode cX9_web 6 = .ok (.iload_n 2, 1) := by decide +kernel
theorem dX9_web_7 : decode cX9_web 7 = .ok (.iconst 1, 1) := by decide +kernel
theorem dX9_web_8 : decode cX9_web 8 = .ok (.bipush 9, 2) := by decide +kernel
theorem dX9_web_10 : decode cX9_web 10 = .ok (.invokestatic 42, 3) := by decide +kernel
theorem dX9_web_13 : decode cX9_web 13 = .ok (.aload_n 3, 1) := by decide +kernel
theorem dX9_web_14 : decode cX9_web 14 = .ok (.bipush 119, 2) := by decide +kernel
theorem dX9_web_16 : decode cX9_web 16 = .ok (.invokestatic 62, 3) := by decide +kernel
theorem dX9_web_19 : decode cX9_web 19 = .ok (.aload_n 3, 1) := by decide +kernel
theorem dX9_web_20 : decode cX9_web 20 = .ok (.getfield 66, 3) := by decide +kernel
theorem dX9_web_23 : decode cX9_web 23 = .ok (.iload_n 2, 1) := by decide +kernel
theorem dX9_web_24 : decode cX9_web 24 = .ok (.putfield 70, 3) := by decide +kernel
theorem dX9_web_27 : decode cX9_web 27 = .ok (.aload_n 3, 1) := by decide +kernel
theorem dX9_web_28 : decode cX9_web 28 = .ok (.getfield 76, 3) := by decide +kernel
theorem dX9_web_31 : decode cX9_web 31 = .ok (.bipush 119, 2) := by decide +kernel
theorem dX9_web_33 : decode cX9_web 33 = .ok (.invokevirtual 80, 3) := by decide +kernel
theorem dX9_web_36 : decode cX9_web 36 = .ok (.ireturn, 1) := by decide +kernel
theorem dX9_spring_0 : decode cX9_spring 0 = .ok (.aload_n 0, 1) := by decide +kernel
theorem dX9_spring_1 : decode cX9_spring 1 = .ok (.iload_n 1, 1) := by decide +kernel
theorem dX9_spring_2 : decode cX9_spring 2 = .ok (.invokevirtual 58, 3) := by decide +kernel
theorem dX9_spring_5 : decode cX9_spring 5 = .ok (.astore 4, 2) := by decide +kernel
theorem dX9_spring_7 : decode cX9_spring 7 = .ok (.iload_n 2, 1) := by decide +kernel
theorem dX9_spring_8 : decode cX9_spring 8 = .ok (.bipush 20, 2) := by decide +kernel
theorem dX9_spring_10 : decode cX9_spring 10 = .ok (.bipush 99, 2) := by decide +kernel
theorem dX9_spring_12 : decode cX9_spring 12 = .ok (.invokestatic 42, 3) := by decide +kernel
theorem dX9_spring_15 : decode cX9_spring 15 = .ok (.iload_n 3, 1) := by decide +kernel
theorem dX9_spring_16 : decode cX9_spring 16 = .ok (.iconst 1, 1) := by decide +kernel
theorem dX9_spring_17 : decode cX9_spring 17 = .ok (.bipush 9, 2) := by decide +kernel
theorem dX9_spring_19 : decode cX9_spring 19 = .ok (.invokestatic 42, 3) := by decide +kernel
theorem dX9_spring_22 : decode cX9_spring 22 = .ok (.aload 4, 2) := by decide +kernel
theorem dX9_spring_24 : decode cX9_spring 24 = .ok (.bipush 115, 2) := by decide +kernel
theorem dX9_spring_26 : decode cX9_spring 26 = .ok (.invokestatic 62, 3) := by decide +kernel
theorem dX9_spring_29 : decode cX9_spring 29 = .ok (.aload 4, 2) := by decide +kernel
theorem dX9_spring_31 : decode cX9_spring 31 = .ok (.getfield 66, 3) := by decide +kernel
theorem dX9_spring_34 : decode cX9_spring 34 = .ok (.iload_n 2, 1) := by decide +kernel
theorem dX9_spring_35 : decode cX9_spring 35 = .ok (.iload_n 3, 1) := by decide +kernel
theorem dX9_spring_36 : decode cX9_spring 36 = .ok (.invokevirtual 85, 3) := by decide +kernel
theorem dX9_spring_39 : decode cX9_spring 39 = .ok (.aload 4, 2) := by decide +kernel
theorem dX9_spring_41 : decode cX9_spring 41 = .ok (.getfield 76, 3) := by decide +kernel
theorem dX9_spring_44 : decode cX9_spring 44 = .ok (.bipush 115, 2) := by decide +kernel
theorem dX9_spring_46 : decode cX9_spring 46 = .ok (.invokevirtual 80, 3) := by decide +kernel
theorem dX9_spring_49 : decode cX9_spring 49 = .ok (.ireturn, 1) := by decide +kernel
theorem dX9_change_0 : decode cX9_change 0 = .ok (.aload_n 0, 1) := by decide +kernel
theorem dX9_change_1 : decode cX9_change 1 = .ok (.iload_n 1, 1) := by decide +kernel
theorem dX9_change_2 : decode cX9_change 2 = .ok (.invokevirtual 58, 3) := by decide +kernel
theorem dX9_change_5 : decode cX9_change 5 = .ok (.astore 5, 2) := by decide +kernel
theorem dX9_change_7 : decode cX9_change 7 = .ok (.aload 5, 2) := by decide +kernel
theorem dX9_change_9 : decode cX9_change 9 = .ok (.iload_n 2, 1) := by decide +kernel
theorem dX9_change_10 : decode cX9_change 10 = .ok (.invokestatic 88, 3) := by decide +kernel
theorem dX9_change_13 : decode cX9_change 13 = .ok (.iload_n 3, 1) := by decide +kernel
theorem dX9_change_14 : decode cX9_change 14 = .ok (.bipush 20, 2) := by decide +kernel
theorem dX9_change_16 : decode cX9_change 16 = .ok (.bipush 99, 2) := by decide +kernel
theorem dX9_change_18 : decode cX9_change 18 = .ok (.invokestatic 42, 3) := by decide +kernel
theorem dX9_change_21 : decode cX9_change 21 = .ok (.iload 4, 2) := by decide +kernel
theorem dX9_change_23 : decode cX9_change 23 = .ok (.iconst 1, 1) := by decide +kernel
theorem dX9_change_24 : decode cX9_change 24 = .ok (.bipush 9, 2) := by decide +kernel
theorem dX9_change_26 : decode cX9_change 26 = .ok (.invokestatic 42, 3) := by decide +kernel
theorem dX9_change_29 : decode cX9_change 29 = .ok (.aload 5, 2) := by decide +kernel
theorem dX9_change_31 : decode cX9_change 31 = .ok (.bipush 115, 2) := by decide +kernel
theorem dX9_change_33 : decode cX9_change 33 = .ok (.invokestatic 92, 3) := by decide +kernel
theorem dX9_change_36 : decode cX9_change 36 = .ok (.aload 5, 2) := by decide +kernel
theorem dX9_change_38 : decode cX9_change 38 = .ok (.getfield 66, 3) := by decide +kernel
theorem dX9_change_41 : decode cX9_change 41 = .ok (.getfield 95, 3) := by decide +kernel
theorem dX9_change_44 : decode cX9_change 44 = .ok (.iload_n 2, 1) := by decide +kernel
theorem dX9_change_45 : decode cX9_change 45 = .ok (.invokevirtual 98, 3) := by decide +kernel
theorem dX9_change_48 : decode cX9_change 48 = .ok (.istore 6, 2) := by decide +kernel
theorem dX9_change_50 : decode cX9_change 50 = .ok (.aload 5, 2) := by decide +kernel
theorem dX9_change_52 : decode cX9_change 52 = .ok (.getfield 66, 3) := by decide +kernel
theorem dX9_change_55 : decode cX9_change 55 = .ok (.iload_n 2, 1) := by decide +kernel
theorem dX9_change_56 : decode cX9_change 56 = .ok (.iload_n 3, 1) := by decide +kernel
theorem dX9_change_57 : decode cX9_change 57 = .ok (.iload 4, 2) := by decide +kernel
theorem dX9_change_59 : decode cX9_change 59 = .ok (.invokevirtual 102, 3) := by decide +kernel
theorem dX9_change_62 : decode cX9_change 62 = .ok (.iload 6, 2) := by decide +kernel
theorem dX9_change_64 : decode cX9_change 64 = .ok (.ireturn, 1) := by decide +kernel
theorem dX9_tie_0 : decode cX9_tie 0 = .ok (.aload_n 0, 1) := by decide +kernel
theorem dX9_tie_1 : decode cX9_tie 1 = .ok (.iload_n 1, 1) := by decide +kernel
theorem dX9_tie_2 : decode cX9_tie 2 = .ok (.invokevirtual 58, 3) := by decide +kernel
theorem dX9_tie_5 : decode cX9_tie 5 = .ok (.astore_n 2, 1) := by decide +kernel
theorem dX9_tie_6 : decode cX9_tie 6 = .ok (.aload_n 2, 1) := by decide +kernel
theorem dX9_tie_7 : decode cX9_tie 7 = .ok (.bipush 116, 2) := by decide +kernel
theorem dX9_tie_9 : decode cX9_tie 9 = .ok (.invokestatic 62, 3) := by decide +kernel
theorem dX9_tie_12 : decode cX9_tie 12 = .ok (.aload_n 2, 1) := by decide +kernel
theorem dX9_tie_13 : decode cX9_tie 13 = .ok (.getfield 76, 3) := by decide +kernel
theorem dX9_tie_16 : decode cX9_tie 16 = .ok (.bipush 116, 2) := by decide +kernel
theorem dX9_tie_18 : decode cX9_tie 18 = .ok (.invokevirtual 80, 3) := by decide +kernel
theorem dX9_tie_21 : decode cX9_tie 21 = .ok (.ireturn, 1) := by decide +kernel
theorem dX9_pull_0 : decode cX9_pull 0 = .ok (.aload_n 0, 1) := by decide +kernel
theorem dX9_pull_1 : decode cX9_pull 1 = .ok (.iload_n 1, 1) := by decide +kernel
theorem dX9_pull_2 : decode cX9_pull 2 = .ok (.invokevirtual 58, 3) := by decide +kernel
theorem dX9_pull_5 : decode cX9_pull 5 = .ok (.astore 5, 2) := by decide +kernel
theorem dX9_pull_7 : decode cX9_pull 7 = .ok (.iload_n 3, 1) := by decide +kernel
theorem dX9_pull_8 : decode cX9_pull 8 = .ok (.iload_n 2, 1) := by decide +kernel
theorem dX9_pull_9 : decode cX9_pull 9 = .ok (.ifCond .eq 14, 3) := by decide +kernel
theorem dX9_pull_12 : decode cX9_pull 12 = .ok (.aload 5, 2) := by decide +kernel
theorem dX9_pull_14 : decode cX9_pull 14 = .ok (.getfield 66, 3) := by decide +kernel
theorem dX9_pull_17 : decode cX9_pull 17 = .ok (.getfield 105, 3) := by decide +kernel
theorem dX9_pull_20 : decode cX9_pull 20 = .ok (.goto 11, 3) := by decide +kernel
theorem dX9_pull_23 : decode cX9_pull 23 = .ok (.aload 5, 2) := by decide +kernel
theorem dX9_pull_25 : decode cX9_pull 25 = .ok (.getfield 66, 3) := by decide +kernel
theorem dX9_pull_28 : decode cX9_pull 28 = .ok (.getfield 108, 3) := by decide +kernel
theorem dX9_pull_31 : decode cX9_pull 31 = .ok (.invokestatic 111, 3) := by decide +kernel
theorem dX9_pull_34 : decode cX9_pull 34 = .ok (.iload 4, 2) := by decide +kernel
theorem dX9_pull_36 : decode cX9_pull 36 = .ok (.bipush 10, 2) := by decide +kernel
theorem dX9_pull_38 : decode cX9_pull 38 = .ok (.bipush 99, 2) := by decide +kernel
theorem dX9_pull_40 : decode cX9_pull 40 = .ok (.invokestatic 42, 3) := by decide +kernel
theorem dX9_pull_43 : decode cX9_pull 43 = .ok (.aload 5, 2) := by decide +kernel
theorem dX9_pull_45 : decode cX9_pull 45 = .ok (.bipush 116, 2) := by decide +kernel
theorem dX9_pull_47 : decode cX9_pull 47 = .ok (.invokestatic 92, 3) := by decide +kernel
theorem dX9_pull_50 : decode cX9_pull 50 = .ok (.aload 5, 2) := by decide +kernel
theorem dX9_pull_52 : decode cX9_pull 52 = .ok (.getfield 66, 3) := by decide +kernel
theorem dX9_pull_55 : decode cX9_pull 55 = .ok (.invokevirtual 114, 3) := by decide +kernel
theorem dX9_pull_58 : decode cX9_pull 58 = .ok (.istore 6, 2) := by decide +kernel
theorem dX9_pull_60 : decode cX9_pull 60 = .ok (.aload 5, 2) := by decide +kernel
theorem dX9_pull_62 : decode cX9_pull 62 = .ok (.getfield 66, 3) := by decide +kernel
theorem dX9_pull_65 : decode cX9_pull 65 = .ok (.iload_n 2, 1) := by decide +kernel
theorem dX9_pull_66 : decode cX9_pull 66 = .ok (.iload_n 3, 1) := by decide +kernel
theorem dX9_pull_67 : decode cX9_pull 67 = .ok (.iload 4, 2) := by decide +kernel
theorem dX9_pull_69 : decode cX9_pull 69 = .ok (.invokevirtual 117, 3) := by decide +kernel
theorem dX9_pull_72 : decode cX9_pull 72 = .ok (.iload 6, 2) := by decide +kernel
theorem dX9_pull_74 : decode cX9_pull 74 = .ok (.aload 5, 2) := by decide +kernel
theorem dX9_pull_76 : decode cX9_pull 76 = .ok (.getfield 66, 3) := by decide +kernel
theorem dX9_pull_79 : decode cX9_pull 79 = .ok (.invokevirtual 114, 3) := by decide +kernel
theorem dX9_pull_82 : decode cX9_pull 82 = .ok (.isub, 1) := by decide +kernel
theorem dX9_pull_83 : decode cX9_pull 83 = .ok (.invokestatic 121, 3) := by decide +kernel
theorem dX9_pull_86 : decode cX9_pull 86 = .ok (.ireturn, 1) := by decide +kernel
theorem dX9_layer_0 : decode cX9_layer 0 = .ok (.aload_n 0, 1) := by decide +kernel
theorem dX9_layer_1 : decode cX9_layer 1 = .ok (.iload_n 1, 1) := by decide +kernel
theorem dX9_layer_2 : decode cX9_layer 2 = .ok (.invokevirtual 58, 3) := by decide +kernel
theorem dX9_layer_5 : decode cX9_layer 5 = .ok (.astore 5, 2) := by decide +kernel
theorem dX9_layer_7 : decode cX9_layer 7 = .ok (.iload_n 2, 1) := by decide +kernel
theorem dX9_layer_8 : decode cX9_layer 8 = .ok (.invokestatic 126, 3) := by decide +kernel
theorem dX9_layer_11 : decode cX9_layer 11 = .ok (.iload_n 3, 1) := by decide +kernel
theorem dX9_layer_12 : decode cX9_layer 12 = .ok (.iconst 5, 1) := by decide +kernel
theorem dX9_layer_13 : decode cX9_layer 13 = .ok (.bipush 60, 2) := by decide +kernel
theorem dX9_layer_15 : decode cX9_layer 15 = .ok (.invokestatic 42, 3) := by decide +kernel
theorem dX9_layer_18 : decode cX9_layer 18 = .ok (.iload 4, 2) := by decide +kernel
theorem dX9_layer_20 : decode cX9_layer 20 = .ok (.iconst 1, 1) := by decide +kernel
theorem dX9_layer_21 : decode cX9_layer 21 = .ok (.bipush 9, 2) := by decide +kernel
theorem dX9_layer_23 : decode cX9_layer 23 = .ok (.invokestatic 42, 3) := by decide +kernel
theorem dX9_layer_26 : decode cX9_layer 26 = .ok (.aload 5, 2) := by decide +kernel
theorem dX9_layer_28 : decode cX9_layer 28 = .ok (.bipush 108, 2) := by decide +kernel
theorem dX9_layer_30 : decode cX9_layer 30 = .ok (.invokestatic 62, 3) := by decide +kernel
theorem dX9_layer_33 : decode cX9_layer 33 = .ok (.aload 5, 2) := by decide +kernel
theorem dX9_layer_35 : decode cX9_layer 35 = .ok (.getfield 130, 3) := by decide +kernel
theorem dX9_layer_38 : decode cX9_layer 38 = .ok (.new 134, 3) := by decide +kernel
theorem dX9_layer_41 : decode cX9_layer 41 = .ok (.dup, 1) := by decide +kernel
theorem dX9_layer_42 : decode cX9_layer 42 = .ok (.iload_n 2, 1) := by decide +kernel
theorem dX9_layer_43 : decode cX9_layer 43 = .ok (.iload_n 3, 1) := by decide +kernel
theorem dX9_layer_44 : decode cX9_layer 44 = .ok (.iload 4, 2) := by decide +kernel
theorem dX9_layer_46 : decode cX9_layer 46 = .ok (.invokespecial 136, 3) := by decide +kernel
theorem dX9_layer_49 : decode cX9_layer 49 = .ok (.invokevirtual 139, 3) := by decide +kernel
theorem dX9_layer_52 : decode cX9_layer 52 = .ok (.aload 5, 2) := by decide +kernel
theorem dX9_layer_54 : decode cX9_layer 54 = .ok (.getfield 76, 3) := by decide +kernel
theorem dX9_layer_57 : decode cX9_layer 57 = .ok (.bipush 108, 2) := by decide +kernel
theorem dX9_layer_59 : decode cX9_layer 59 = .ok (.invokevirtual 80, 3) := by decide +kernel
theorem dX9_layer_62 : decode cX9_layer 62 = .ok (.ireturn, 1) := by decide +kernel
theorem dX9_buttons_0 : decode cX9_buttons 0 = .ok (.aload_n 0, 1) := by decide +kernel
theorem dX9_buttons_1 : decode cX9_buttons 1 = .ok (.iload_n 1, 1) := by decide +kernel
theorem dX9_buttons_2 : decode cX9_buttons 2 = .ok (.invokevirtual 58, 3) := by decide +kernel
theorem dX9_buttons_5 : decode cX9_buttons 5 = .ok (.astore_n 2, 1) := by decide +kernel
theorem dX9_buttons_6 : decode cX9_buttons 6 = .ok (.aload_n 2, 1) := by decide +kernel
theorem dX9_buttons_7 : decode cX9_buttons 7 = .ok (.bipush 98, 2) := by decide +kernel
theorem dX9_buttons_9 : decode cX9_buttons 9 = .ok (.invokestatic 62, 3) := by decide +kernel
theorem dX9_buttons_12 : decode cX9_buttons 12 = .ok (.aload_n 2, 1) := by decide +kernel
theorem dX9_buttons_13 : decode cX9_buttons 13 = .ok (.getfield 76, 3) := by decide +kernel
theorem dX9_buttons_16 : decode cX9_buttons 16 = .ok (.bipush 98, 2) := by decide +kernel
theorem dX9_buttons_18 : decode cX9_buttons 18 = .ok (.invokevirtual 80, 3) := by decide +kernel
theorem dX9_buttons_21 : decode cX9_buttons 21 = .ok (.ireturn, 1) := by decide +kernel
theorem dX9_draw_0 : decode cX9_draw 0 = .ok (.aload_n 0, 1) := by decide +kernel
theorem dX9_draw_1 : decode cX9_draw 1 = .ok (.iload_n 1, 1) := by decide +kernel
theorem dX9_draw_2 : decode cX9_draw 2 = .ok (.invokevirtual 58, 3) := by decide +kernel
theorem dX9_draw_5 : decode cX9_draw 5 = .ok (.astore 4, 2) := by decide +kernel
theorem dX9_draw_7 : decode cX9_draw 7 = .ok (.aload 4, 2) := by decide +kernel
theorem dX9_draw_9 : decode cX9_draw 9 = .ok (.iload_n 2, 1) := by decide +kernel
theorem dX9_draw_10 : decode cX9_draw 10 = .ok (.invokestatic 88, 3) := by decide +kernel
theorem dX9_draw_13 : decode cX9_draw 13 = .ok (.iload_n 3, 1) := by decide +kernel
theorem dX9_draw_14 : decode cX9_draw 14 = .ok (.iconst 1, 1) := by decide +kernel
theorem dX9_draw_15 : decode cX9_draw 15 = .ok (.bipush 30, 2) := by decide +kernel
theorem dX9_draw_17 : decode cX9_draw 17 = .ok (.invokestatic 42, 3) := by decide +kernel
theorem dX9_draw_20 : decode cX9_draw 20 = .ok (.aload 4, 2) := by decide +kernel
theorem dX9_draw_22 : decode cX9_draw 22 = .ok (.bipush 98, 2) := by decide +kernel
theorem dX9_draw_24 : decode cX9_draw 24 = .ok (.invokestatic 92, 3) := by decide +kernel
theorem dX9_draw_27 : decode cX9_draw 27 = .ok (.aload 4, 2) := by decide +kernel
theorem dX9_draw_29 : decode cX9_draw 29 = .ok (.getfield 144, 3) := by decide +kernel
theorem dX9_draw_32 : decode cX9_draw 32 = .ok (.iload_n 2, 1) := by decide +kernel
theorem dX9_draw_33 : decode cX9_draw 33 = .ok (.invokevirtual 98, 3) := by decide +kernel
theorem dX9_draw_36 : decode cX9_draw 36 = .ok (.ifCond .ne 13, 3) := by decide +kernel
theorem dX9_draw_39 : decode cX9_draw 39 = .ok (.aload 4, 2) := by decide +kernel
theorem dX9_draw_41 : decode cX9_draw 41 = .ok (.invokevirtual 147, 3) := by decide +kernel
theorem dX9_draw_44 : decode cX9_draw 44 = .ok (.bipush 12, 2) := by decide +kernel
theorem dX9_draw_46 : decode cX9_draw 46 = .ok (.invokestatic 50, 3) := by decide +kernel
theorem dX9_draw_49 : decode cX9_draw 49 = .ok (.aload 4, 2) := by decide +kernel
theorem dX9_draw_51 : decode cX9_draw 51 = .ok (.getfield 144, 3) := by decide +kernel
theorem dX9_draw_54 : decode cX9_draw 54 = .ok (.iload_n 2, 1) := by decide +kernel
theorem dX9_draw_55 : decode cX9_draw 55 = .ok (.iload_n 3, 1) := by decide +kernel
theorem dX9_draw_56 : decode cX9_draw 56 = .ok (.invokevirtual 150, 3) := by decide +kernel
theorem dX9_draw_59 : decode cX9_draw 59 = .ok (.aload 4, 2) := by decide +kernel
theorem dX9_draw_61 : decode cX9_draw 61 = .ok (.invokevirtual 147, 3) := by decide +kernel
theorem dX9_draw_64 : decode cX9_draw 64 = .ok (.ireturn, 1) := by decide +kernel
theorem dX9_cover_0 : decode cX9_cover 0 = .ok (.aload_n 0, 1) := by decide +kernel
theorem dX9_cover_1 : decode cX9_cover 1 = .ok (.iload_n 1, 1) := by decide +kernel
theorem dX9_cover_2 : decode cX9_cover 2 = .ok (.invokevirtual 58, 3) := by decide +kernel
theorem dX9_cover_5 : decode cX9_cover 5 = .ok (.astore 4, 2) := by decide +kernel
theorem dX9_cover_7 : decode cX9_cover 7 = .ok (.aload_n 0, 1) := by decide +kernel
theorem dX9_cover_8 : decode cX9_cover 8 = .ok (.iload_n 2, 1) := by decide +kernel
theorem dX9_cover_9 : decode cX9_cover 9 = .ok (.invokevirtual 153, 3) := by decide +kernel
theorem dX9_cover_12 : decode cX9_cover 12 = .ok (.astore 5, 2) := by decide +kernel
theorem dX9_cover_14 : decode cX9_cover 14 = .ok (.iload_n 3, 1) := by decide +kernel
theorem dX9_cover_15 : decode cX9_cover 15 = .ok (.iconst 0, 1) := by decide +kernel
theorem dX9_cover_16 : decode cX9_cover 16 = .ok (.aload 5, 2) := by decide +kernel
theorem dX9_cover_18 : decode cX9_cover 18 = .ok (.getfield 157, 3) := by decide +kernel
theorem dX9_cover_21 : decode cX9_cover 21 = .ok (.iconst 1, 1) := by decide +kernel
theorem dX9_cover_22 : decode cX9_cover 22 = .ok (.isub, 1) := by decide +kernel
theorem dX9_cover_23 : decode cX9_cover 23 = .ok (.invokestatic 42, 3) := by decide +kernel
theorem dX9_cover_26 : decode cX9_cover 26 = .ok (.aload 4, 2) := by decide +kernel
theorem dX9_cover_28 : decode cX9_cover 28 = .ok (.bipush 99, 2) := by decide +kernel
theorem dX9_cover_30 : decode cX9_cover 30 = .ok (.invokestatic 62, 3) := by decide +kernel
theorem dX9_cover_33 : decode cX9_cover 33 = .ok (.aload 4, 2) := by decide +kernel
theorem dX9_cover_35 : decode cX9_cover 35 = .ok (.aload 5, 2) := by decide +kernel
theorem dX9_cover_37 : decode cX9_cover 37 = .ok (.iload_n 3, 1) := by decide +kernel
theorem dX9_cover_38 : decode cX9_cover 38 = .ok (.invokevirtual 162, 3) := by decide +kernel
theorem dX9_cover_41 : decode cX9_cover 41 = .ok (.ifCond .ne 13, 3) := by decide +kernel
theorem dX9_cover_44 : decode cX9_cover 44 = .ok (.new 166, 3) := by decide +kernel
theorem dX9_cover_47 : decode cX9_cover 47 = .ok (.dup, 1) := by decide +kernel
theorem dX9_cover_48 : decode cX9_cover 48 = .ok (.ldc 168, 2) := by decide +kernel
theorem dX9_cover_50 : decode cX9_cover 50 = .ok (.invokespecial 170, 3) := by decide +kernel
theorem dX9_cover_53 : decode cX9_cover 53 = .ok (.athrow, 1) := by decide +kernel
theorem dX9_cover_54 : decode cX9_cover 54 = .ok (.aload 5, 2) := by decide +kernel
theorem dX9_cover_56 : decode cX9_cover 56 = .ok (.getfield 173, 3) := by decide +kernel
theorem dX9_cover_59 : decode cX9_cover 59 = .ok (.ireturn, 1) := by decide +kernel
theorem dX9_sign_0 : decode cX9_sign 0 = .ok (.aload_n 0, 1) := by decide +kernel
theorem dX9_sign_1 : decode cX9_sign 1 = .ok (.iload_n 1, 1) := by decide +kernel
theorem dX9_sign_2 : decode cX9_sign 2 = .ok (.invokevirtual 58, 3) := by decide +kernel
theorem dX9_sign_5 : decode cX9_sign 5 = .ok (.astore_n 2, 1) := by decide +kernel
theorem dX9_sign_6 : decode cX9_sign 6 = .ok (.aload_n 2, 1) := by decide +kernel
theorem dX9_sign_7 : decode cX9_sign 7 = .ok (.getfield 76, 3) := by decide +kernel
theorem dX9_sign_10 : decode cX9_sign 10 = .ok (.invokevirtual 176, 3) := by decide +kernel
theorem dX9_sign_13 : decode cX9_sign 13 = .ok (.ifCond .eq 13, 3) := by decide +kernel
theorem dX9_sign_16 : decode cX9_sign 16 = .ok (.new 180, 3) := by decide +kernel
theorem dX9_sign_19 : decode cX9_sign 19 = .ok (.dup, 1) := by decide +kernel
theorem dX9_sign_20 : decode cX9_sign 20 = .ok (.ldc 182, 2) := by decide +kernel
theorem dX9_sign_22 : decode cX9_sign 22 = .ok (.invokespecial 184, 3) := by decide +kernel
theorem dX9_sign_25 : decode cX9_sign 25 = .ok (.athrow, 1) := by decide +kernel
theorem dX9_sign_26 : decode cX9_sign 26 = .ok (.aload_n 2, 1) := by decide +kernel
theorem dX9_sign_27 : decode cX9_sign 27 = .ok (.getfield 76, 3) := by decide +kernel
theorem dX9_sign_30 : decode cX9_sign 30 = .ok (.invokevirtual 185, 3) := by decide +kernel
theorem dX9_sign_33 : decode cX9_sign 33 = .ok (.ireturn, 1) := by decide +kernel
theorem dX9_open_0 : decode cX9_open 0 = .ok (.aload_n 0, 1) := by decide +kernel
theorem dX9_open_1 : decode cX9_open 1 = .ok (.iload_n 1, 1) := by decide +kernel
theorem dX9_open_2 : decode cX9_open 2 = .ok (.invokevirtual 58, 3) := by decide +kernel
theorem dX9_open_5 : decode cX9_open 5 = .ok (.astore_n 3, 1) := by decide +kernel
theorem dX9_open_6 : decode cX9_open 6 = .ok (.iload_n 2, 1) := by decide +kernel
theorem dX9_open_7 : decode cX9_open 7 = .ok (.iconst 0, 1) := by decide +kernel
theorem dX9_open_8 : decode cX9_open 8 = .ok (.aload_n 3, 1) := by decide +kernel
theorem dX9_open_9 : decode cX9_open 9 = .ok (.getfield 76, 3) := by decide +kernel
theorem dX9_open_12 : decode cX9_open 12 = .ok (.getfield 188, 3) := by decide +kernel
theorem dX9_open_15 : decode cX9_open 15 = .ok (.invokestatic 42, 3) := by decide +kernel
theorem dX9_open_18 : decode cX9_open 18 = .ok (.aload_n 3, 1) := by decide +kernel
theorem dX9_open_19 : decode cX9_open 19 = .ok (.iload_n 2, 1) := by decide +kernel
theorem dX9_open_20 : decode cX9_open 20 = .ok (.invokevirtual 191, 3) := by decide +kernel
theorem dX9_open_23 : decode cX9_open 23 = .ok (.ireturn, 1) := by decide +kernel
theorem dX9_steps_0 : decode cX9_steps 0 = .ok (.aload_n 0, 1) := by decide +kernel
theorem dX9_steps_1 : decode cX9_steps 1 = .ok (.iload_n 1, 1) := by decide +kernel
theorem dX9_steps_2 : decode cX9_steps 2 = .ok (.invokevirtual 58, 3) := by decide +kernel
theorem dX9_steps_5 : decode cX9_steps 5 = .ok (.getfield 76, 3) := by decide +kernel
theorem dX9_steps_8 : decode cX9_steps 8 = .ok (.getfield 188, 3) := by decide +kernel
theorem dX9_steps_11 : decode cX9_steps 11 = .ok (.ireturn, 1) := by decide +kernel
theorem dX9_step_0 : decode cX9_step 0 = .ok (.aload_n 0, 1) := by decide +kernel
theorem dX9_step_1 : decode cX9_step 1 = .ok (.iload_n 1, 1) := by decide +kernel
theorem dX9_step_2 : decode cX9_step 2 = .ok (.invokevirtual 58, 3) := by decide +kernel
theorem dX9_step_5 : decode cX9_step 5 = .ok (.astore_n 3, 1) := by decide +kernel
theorem dX9_step_6 : decode cX9_step 6 = .ok (.iload_n 2, 1) := by decide +kernel
theorem dX9_step_7 : decode cX9_step 7 = .ok (.aload_n 3, 1) := by decide +kernel
theorem dX9_step_8 : decode cX9_step 8 = .ok (.getfield 76, 3) := by decide +kernel
theorem dX9_step_11 : decode cX9_step 11 = .ok (.getfield 188, 3) := by decide +kernel
theorem dX9_step_14 : decode cX9_step 14 = .ok (.invokestatic 194, 3) := by decide +kernel
theorem dX9_step_17 : decode cX9_step 17 = .ok (.aload_n 3, 1) := by decide +kernel
theorem dX9_step_18 : decode cX9_step 18 = .ok (.getfield 76, 3) := by decide +kernel
theorem dX9_step_21 : decode cX9_step 21 = .ok (.iload_n 2, 1) := by decide +kernel
theorem dX9_step_22 : decode cX9_step 22 = .ok (.invokevirtual 197, 3) := by decide +kernel
theorem dX9_step_25 : decode cX9_step 25 = .ok (.ireturn, 1) := by decide +kernel
theorem dX9_isSigned_0 : decode cX9_isSigned 0 = .ok (.aload_n 0, 1) := by decide +kernel
theorem dX9_isSigned_1 : decode cX9_isSigned 1 = .ok (.iload_n 1, 1) := by decide +kernel
theorem dX9_isSigned_2 : decode cX9_isSigned 2 = .ok (.invokevirtual 58, 3) := by decide +kernel
theorem dX9_isSigned_5 : decode cX9_isSigned 5 = .ok (.astore_n 3, 1) := by decide +kernel
theorem dX9_isSigned_6 : decode cX9_isSigned 6 = .ok (.iload_n 2, 1) := by decide +kernel
theorem dX9_isSigned_7 : decode cX9_isSigned 7 = .ok (.aload_n 3, 1) := by decide +kernel
theorem dX9_isSigned_8 : decode cX9_isSigned 8 = .ok (.getfield 76, 3) := by decide +kernel
theorem dX9_isSigned_11 : decode cX9_isSigned 11 = .ok (.getfield 188, 3) := by decide +kernel
theorem dX9_isSigned_14 : decode cX9_isSigned 14 = .ok (.invokestatic 194, 3) := by decide +kernel
theorem dX9_isSigned_17 : decode cX9_isSigned 17 = .ok (.iload_n 2, 1) := by decide +kernel
theorem dX9_isSigned_18 : decode cX9_isSigned 18 = .ok (.aload_n 3, 1) := by decide +kernel
theorem dX9_isSigned_19 : decode cX9_isSigned 19 = .ok (.getfield 76, 3) := by decide +kernel
theorem dX9_isSigned_22 : decode cX9_isSigned 22 = .ok (.getfield 201, 3) := by decide +kernel
theorem dX9_isSigned_25 : decode cX9_isSigned 25 = .ok (.if_icmp .ge 7, 3) := by decide +kernel
theorem dX9_isSigned_28 : decode cX9_isSigned 28 = .ok (.iconst 1, 1) := by decide +kernel
theorem dX9_isSigned_29 : decode cX9_isSigned 29 = .ok (.goto 4, 3) := by decide +kernel
theorem dX9_isSigned_32 : decode cX9_isSigned 32 = .ok (.iconst 0, 1) := by decide +kernel
theorem dX9_isSigned_33 : decode cX9_isSigned 33 = .ok (.ireturn, 1) := by decide +kernel
theorem dX9_isClosed_0 : decode cX9_isClosed 0 = .ok (.aload_n 0, 1) := by decide +kernel
theorem dX9_isClosed_1 : decode cX9_isClosed 1 = .ok (.iload_n 1, 1) := by decide +kernel
theorem dX9_isClosed_2 : decode cX9_isClosed 2 = .ok (.invokevirtual 58, 3) := by decide +kernel
theorem dX9_isClosed_5 : decode cX9_isClosed 5 = .ok (.invokevirtual 204, 3) := by decide +kernel
theorem dX9_isClosed_8 : decode cX9_isClosed 8 = .ok (.ireturn, 1) := by decide +kernel
theorem dX9_stands_0 : decode cX9_stands 0 = .ok (.aload_n 0, 1) := by decide +kernel
theorem dX9_stands_1 : decode cX9_stands 1 = .ok (.iload_n 1, 1) := by decide +kernel
theorem dX9_stands_2 : decode cX9_stands 2 = .ok (.invokevirtual 58, 3) := by decide +kernel
theorem dX9_stands_5 : decode cX9_stands 5 = .ok (.astore_n 3, 1) := by decide +kernel
theorem dX9_stands_6 : decode cX9_stands 6 = .ok (.aload_n 3, 1) := by decide +kernel
theorem dX9_stands_7 : decode cX9_stands 7 = .ok (.iload_n 2, 1) := by decide +kernel
theorem dX9_stands_8 : decode cX9_stands 8 = .ok (.invokestatic 88, 3) := by decide +kernel
theorem dX9_stands_11 : decode cX9_stands 11 = .ok (.aload_n 3, 1) := by decide +kernel
theorem dX9_stands_12 : decode cX9_stands 12 = .ok (.getfield 66, 3) := by decide +kernel
theorem dX9_stands_15 : decode cX9_stands 15 = .ok (.iload_n 2, 1) := by decide +kernel
theorem dX9_stands_16 : decode cX9_stands 16 = .ok (.invokevirtual 207, 3) := by decide +kernel
theorem dX9_stands_19 : decode cX9_stands 19 = .ok (.ireturn, 1) := by decide +kernel
theorem dX9_thick_0 : decode cX9_thick 0 = .ok (.aload_n 0, 1) := by decide +kernel
theorem dX9_thick_1 : decode cX9_thick 1 = .ok (.iload_n 1, 1) := by decide +kernel
theorem dX9_thick_2 : decode cX9_thick 2 = .ok (.invokevirtual 58, 3) := by decide +kernel
theorem dX9_thick_5 : decode cX9_thick 5 = .ok (.iload_n 2, 1) := by decide +kernel
theorem dX9_thick_6 : decode cX9_thick 6 = .ok (.invokestatic 210, 3) := by decide +kernel
theorem dX9_thick_9 : decode cX9_thick 9 = .ok (.getfield 214, 3) := by decide +kernel
theorem dX9_thick_12 : decode cX9_thick 12 = .ok (.ireturn, 1) := by decide +kernel
theorem dX9_top_0 : decode cX9_top 0 = .ok (.aload_n 0, 1) := by decide +kernel
theorem dX9_top_1 : decode cX9_top 1 = .ok (.iload_n 1, 1) := by decide +kernel
theorem dX9_top_2 : decode cX9_top 2 = .ok (.invokevirtual 58, 3) := by decide +kernel
theorem dX9_top_5 : decode cX9_top 5 = .ok (.astore_n 3, 1) := by decide +kernel
theorem dX9_top_6 : decode cX9_top 6 = .ok (.aload_n 3, 1) := by decide +kernel
theorem dX9_top_7 : decode cX9_top 7 = .ok (.iload_n 2, 1) := by decide +kernel
theorem dX9_top_8 : decode cX9_top 8 = .ok (.invokestatic 88, 3) := by decide +kernel
theorem dX9_top_11 : decode cX9_top 11 = .ok (.aload_n 3, 1) := by decide +kernel
theorem dX9_top_12 : decode cX9_top 12 = .ok (.iload_n 2, 1) := by decide +kernel
theorem dX9_top_13 : decode cX9_top 13 = .ok (.invokevirtual 217, 3) := by decide +kernel
theorem dX9_top_16 : decode cX9_top 16 = .ok (.ireturn, 1) := by decide +kernel
theorem dX9_folds_0 : decode cX9_folds 0 = .ok (.aload_n 0, 1) := by decide +kernel
theorem dX9_folds_1 : decode cX9_folds 1 = .ok (.iload_n 1, 1) := by decide +kernel
theorem dX9_folds_2 : decode cX9_folds 2 = .ok (.invokevirtual 58, 3) := by decide +kernel
theorem dX9_folds_5 : decode cX9_folds 5 = .ok (.iload_n 2, 1) := by decide +kernel
theorem dX9_folds_6 : decode cX9_folds 6 = .ok (.invokevirtual 220, 3) := by decide +kernel
theorem dX9_folds_9 : decode cX9_folds 9 = .ok (.ireturn, 1) := by decide +kernel
theorem dX9_buttonAt_0 : decode cX9_buttonAt 0 = .ok (.aload_n 0, 1) := by decide +kernel
theorem dX9_buttonAt_1 : decode cX9_buttonAt 1 = .ok (.iload_n 1, 1) := by decide +kernel
theorem dX9_buttonAt_2 : decode cX9_buttonAt 2 = .ok (.invokevirtual 58, 3) := by decide +kernel
theorem dX9_buttonAt_5 : decode cX9_buttonAt 5 = .ok (.astore_n 3, 1) := by decide +kernel
theorem dX9_buttonAt_6 : decode cX9_buttonAt 6 = .ok (.aload_n 3, 1) := by decide +kernel
theorem dX9_buttonAt_7 : decode cX9_buttonAt 7 = .ok (.iload_n 2, 1) := by decide +kernel
theorem dX9_buttonAt_8 : decode cX9_buttonAt 8 = .ok (.invokestatic 88, 3) := by decide +kernel
theorem dX9_buttonAt_11 : decode cX9_buttonAt 11 = .ok (.aload_n 3, 1) := by decide +kernel
theorem dX9_buttonAt_12 : decode cX9_buttonAt 12 = .ok (.getfield 144, 3) := by decide +kernel
theorem dX9_buttonAt_15 : decode cX9_buttonAt 15 = .ok (.iload_n 2, 1) := by decide +kernel
theorem dX9_buttonAt_16 : decode cX9_buttonAt 16 = .ok (.invokevirtual 98, 3) := by decide +kernel
theorem dX9_buttonAt_19 : decode cX9_buttonAt 19 = .ok (.istore 4, 2) := by decide +kernel
theorem dX9_buttonAt_21 : decode cX9_buttonAt 21 = .ok (.iload 4, 2) := by decide +kernel
theorem dX9_buttonAt_23 : decode cX9_buttonAt 23 = .ok (.ifCond .ne 13, 3) := by decide +kernel
theorem dX9_buttonAt_26 : decode cX9_buttonAt 26 = .ok (.new 166, 3) := by decide +kernel
theorem dX9_buttonAt_29 : decode cX9_buttonAt 29 = .ok (.dup, 1) := by decide +kernel
theorem dX9_buttonAt_30 : decode cX9_buttonAt 30 = .ok (.ldc 224, 2) := by decide +kernel
theorem dX9_buttonAt_32 : decode cX9_buttonAt 32 = .ok (.invokespecial 170, 3) := by decide +kernel
theorem dX9_buttonAt_35 : decode cX9_buttonAt 35 = .ok (.athrow, 1) := by decide +kernel
theorem dX9_buttonAt_36 : decode cX9_buttonAt 36 = .ok (.iload 4, 2) := by decide +kernel
theorem dX9_buttonAt_38 : decode cX9_buttonAt 38 = .ok (.ireturn, 1) := by decide +kernel
theorem dX9_body_0 : decode cX9_body 0 = .ok (.aload_n 0, 1) := by decide +kernel
theorem dX9_body_1 : decode cX9_body 1 = .ok (.getfield 16, 3) := by decide +kernel
theorem dX9_body_4 : decode cX9_body 4 = .ok (.invokevirtual 46, 3) := by decide +kernel
theorem dX9_body_7 : decode cX9_body 7 = .ok (.iconst 3, 1) := by decide +kernel
theorem dX9_body_8 : decode cX9_body 8 = .ok (.invokestatic 50, 3) := by decide +kernel
theorem dX9_body_11 : decode cX9_body 11 = .ok (.aload_n 0, 1) := by decide +kernel
theorem dX9_body_12 : decode cX9_body 12 = .ok (.getfield 16, 3) := by decide +kernel
theorem dX9_body_15 : decode cX9_body 15 = .ok (.new 25, 3) := by decide +kernel
theorem dX9_body_18 : decode cX9_body 18 = .ok (.dup, 1) := by decide +kernel
theorem dX9_body_19 : decode cX9_body 19 = .ok (.invokespecial 27, 3) := by decide +kernel
theorem dX9_body_22 : decode cX9_body 22 = .ok (.invokevirtual 38, 3) := by decide +kernel
theorem dX9_body_25 : decode cX9_body 25 = .ok (.pop, 1) := by decide +kernel
theorem dX9_body_26 : decode cX9_body 26 = .ok (.aload_n 0, 1) := by decide +kernel
theorem dX9_body_27 : decode cX9_body 27 = .ok (.getfield 16, 3) := by decide +kernel
theorem dX9_body_30 : decode cX9_body 30 = .ok (.invokevirtual 46, 3) := by decide +kernel
theorem dX9_body_33 : decode cX9_body 33 = .ok (.iconst 1, 1) := by decide +kernel
theorem dX9_body_34 : decode cX9_body 34 = .ok (.isub, 1) := by decide +kernel
theorem dX9_body_35 : decode cX9_body 35 = .ok (.ireturn, 1) := by decide +kernel
theorem dX9_mass_0 : decode cX9_mass 0 = .ok (.aload_n 0, 1) := by decide +kernel
theorem dX9_mass_1 : decode cX9_mass 1 = .ok (.iload_n 1, 1) := by decide +kernel
theorem dX9_mass_2 : decode cX9_mass 2 = .ok (.invokevirtual 226, 3) := by decide +kernel
theorem dX9_mass_5 : decode cX9_mass 5 = .ok (.astore 4, 2) := by decide +kernel
theorem dX9_mass_7 : decode cX9_mass 7 = .ok (.iload_n 2, 1) := by decide +kernel
theorem dX9_mass_8 : decode cX9_mass 8 = .ok (.bipush 6, 2) := by decide +kernel
theorem dX9_mass_10 : decode cX9_mass 10 = .ok (.bipush 6, 2) := by decide +kernel
theorem dX9_mass_12 : decode cX9_mass 12 = .ok (.invokestatic 230, 3) := by decide +kernel
theorem dX9_mass_15 : decode cX9_mass 15 = .ok (.iload_n 3, 1) := by decide +kernel
theorem dX9_mass_16 : decode cX9_mass 16 = .ok (.iconst 0, 1) := by decide +kernel
theorem dX9_mass_17 : decode cX9_mass 17 = .ok (.bipush 99, 2) := by decide +kernel
theorem dX9_mass_19 : decode cX9_mass 19 = .ok (.invokestatic 42, 3) := by decide +kernel
theorem dX9_mass_22 : decode cX9_mass 22 = .ok (.aload 4, 2) := by decide +kernel
theorem dX9_mass_24 : decode cX9_mass 24 = .ok (.iload_n 2, 1) := by decide +kernel
theorem dX9_mass_25 : decode cX9_mass 25 = .ok (.invokevirtual 98, 3) := by decide +kernel
theorem dX9_mass_28 : decode cX9_mass 28 = .ok (.istore 5, 2) := by decide +kernel
theorem dX9_mass_30 : decode cX9_mass 30 = .ok (.aload 4, 2) := by decide +kernel
theorem dX9_mass_32 : decode cX9_mass 32 = .ok (.iload_n 2, 1) := by decide +kernel
theorem dX9_mass_33 : decode cX9_mass 33 = .ok (.iload_n 3, 1) := by decide +kernel
theorem dX9_mass_34 : decode cX9_mass 34 = .ok (.invokevirtual 150, 3) := by decide +kernel
theorem dX9_mass_37 : decode cX9_mass 37 = .ok (.iload 5, 2) := by decide +kernel
theorem dX9_mass_39 : decode cX9_mass 39 = .ok (.ireturn, 1) := by decide +kernel
theorem dX9_sinks_0 : decode cX9_sinks 0 = .ok (.aload_n 0, 1) := by decide +kernel
theorem dX9_sinks_1 : decode cX9_sinks 1 = .ok (.iload_n 1, 1) := by decide +kernel
theorem dX9_sinks_2 : decode cX9_sinks 2 = .ok (.invokevirtual 226, 3) := by decide +kernel
theorem dX9_sinks_5 : decode cX9_sinks 5 = .ok (.astore 4, 2) := by decide +kernel
theorem dX9_sinks_7 : decode cX9_sinks 7 = .ok (.aload_n 0, 1) := by decide +kernel
theorem dX9_sinks_8 : decode cX9_sinks 8 = .ok (.iload_n 2, 1) := by decide +kernel
theorem dX9_sinks_9 : decode cX9_sinks 9 = .ok (.invokevirtual 58, 3) := by decide +kernel
theorem dX9_sinks_12 : decode cX9_sinks 12 = .ok (.astore 5, 2) := by decide +kernel
theorem dX9_sinks_14 : decode cX9_sinks 14 = .ok (.aload 5, 2) := by decide +kernel
theorem dX9_sinks_16 : decode cX9_sinks 16 = .ok (.iload_n 3, 1) := by decide +kernel
theorem dX9_sinks_17 : decode cX9_sinks 17 = .ok (.invokestatic 88, 3) := by decide +kernel
theorem dX9_sinks_20 : decode cX9_sinks 20 = .ok (.aload 5, 2) := by decide +kernel
theorem dX9_sinks_22 : decode cX9_sinks 22 = .ok (.invokestatic 233, 3) := by decide +kernel
theorem dX9_sinks_25 : decode cX9_sinks 25 = .ok (.aload 5, 2) := by decide +kernel
theorem dX9_sinks_27 : decode cX9_sinks 27 = .ok (.aload 4, 2) := by decide +kernel
theorem dX9_sinks_29 : decode cX9_sinks 29 = .ok (.aload_n 0, 1) := by decide +kernel
theorem dX9_sinks_30 : decode cX9_sinks 30 = .ok (.getfield 28, 3) := by decide +kernel
theorem dX9_sinks_33 : decode cX9_sinks 33 = .ok (.invokevirtual 237, 3) := by decide +kernel
theorem dX9_sinks_36 : decode cX9_sinks 36 = .ok (.aload_n 0, 1) := by decide +kernel
theorem dX9_sinks_37 : decode cX9_sinks 37 = .ok (.getfield 28, 3) := by decide +kernel
theorem dX9_sinks_40 : decode cX9_sinks 40 = .ok (.iload_n 3, 1) := by decide +kernel
theorem dX9_sinks_41 : decode cX9_sinks 41 = .ok (.invokevirtual 98, 3) := by decide +kernel
theorem dX9_sinks_44 : decode cX9_sinks 44 = .ok (.ireturn, 1) := by decide +kernel
theorem dX9_pressure_0 : decode cX9_pressure 0 = .ok (.aload_n 0, 1) := by decide +kernel
theorem dX9_pressure_1 : decode cX9_pressure 1 = .ok (.iload_n 1, 1) := by decide +kernel
theorem dX9_pressure_2 : decode cX9_pressure 2 = .ok (.invokevirtual 226, 3) := by decide +kernel
theorem dX9_pressure_5 : decode cX9_pressure 5 = .ok (.astore 4, 2) := by decide +kernel
theorem dX9_pressure_7 : decode cX9_pressure 7 = .ok (.aload_n 0, 1) := by decide +kernel
theorem dX9_pressure_8 : decode cX9_pressure 8 = .ok (.iload_n 2, 1) := by decide +kernel
theorem dX9_pressure_9 : decode cX9_pressure 9 = .ok (.invokevirtual 58, 3) := by decide +kernel
theorem dX9_pressure_12 : decode cX9_pressure 12 = .ok (.astore 5, 2) := by decide +kernel
theorem dX9_pressure_14 : decode cX9_pressure 14 = .ok (.aload 5, 2) := by decide +kernel
theorem dX9_pressure_16 : decode cX9_pressure 16 = .ok (.iload_n 3, 1) := by decide +kernel
theorem dX9_pressure_17 : decode cX9_pressure 17 = .ok (.invokestatic 88, 3) := by decide +kernel
theorem dX9_pressure_20 : decode cX9_pressure 20 = .ok (.aload 5, 2) := by decide +kernel
theorem dX9_pressure_22 : decode cX9_pressure 22 = .ok (.invokestatic 233, 3) := by decide +kernel
theorem dX9_pressure_25 : decode cX9_pressure 25 = .ok (.aload 5, 2) := by decide +kernel
theorem dX9_pressure_27 : decode cX9_pressure 27 = .ok (.aload 4, 2) := by decide +kernel
theorem dX9_pressure_29 : decode cX9_pressure 29 = .ok (.aload_n 0, 1) := by decide +kernel
theorem dX9_pressure_30 : decode cX9_pressure 30 = .ok (.getfield 28, 3) := by decide +kernel
theorem dX9_pressure_33 : decode cX9_pressure 33 = .ok (.invokevirtual 237, 3) := by decide +kernel
theorem dX9_pressure_36 : decode cX9_pressure 36 = .ok (.aload 4, 2) := by decide +kernel
theorem dX9_pressure_38 : decode cX9_pressure 38 = .ok (.iload_n 3, 1) := by decide +kernel
theorem dX9_pressure_39 : decode cX9_pressure 39 = .ok (.invokevirtual 98, 3) := by decide +kernel
theorem dX9_pressure_42 : decode cX9_pressure 42 = .ok (.aload_n 0, 1) := by decide +kernel
theorem dX9_pressure_43 : decode cX9_pressure 43 = .ok (.getfield 28, 3) := by decide +kernel
theorem dX9_pressure_46 : decode cX9_pressure 46 = .ok (.iload_n 3, 1) := by decide +kernel
theorem dX9_pressure_47 : decode cX9_pressure 47 = .ok (.invokevirtual 98, 3) := by decide +kernel
theorem dX9_pressure_50 : decode cX9_pressure 50 = .ok (.invokestatic 241, 3) := by decide +kernel
theorem dX9_pressure_53 : decode cX9_pressure 53 = .ok (.ireturn, 1) := by decide +kernel
theorem dX9_comfort_0 : decode cX9_comfort 0 = .ok (.aload_n 0, 1) := by decide +kernel
theorem dX9_comfort_1 : decode cX9_comfort 1 = .ok (.iload_n 1, 1) := by decide +kernel
theorem dX9_comfort_2 : decode cX9_comfort 2 = .ok (.invokevirtual 226, 3) := by decide +kernel
theorem dX9_comfort_5 : decode cX9_comfort 5 = .ok (.astore_n 3, 1) := by decide +kernel
theorem dX9_comfort_6 : decode cX9_comfort 6 = .ok (.aload_n 0, 1) := by decide +kernel
theorem dX9_comfort_7 : decode cX9_comfort 7 = .ok (.iload_n 2, 1) := by decide +kernel
theorem dX9_comfort_8 : decode cX9_comfort 8 = .ok (.invokevirtual 58, 3) := by decide +kernel
theorem dX9_comfort_11 : decode cX9_comfort 11 = .ok (.astore 4, 2) := by decide +kernel
theorem dX9_comfort_13 : decode cX9_comfort 13 = .ok (.aload 4, 2) := by decide +kernel
theorem dX9_comfort_15 : decode cX9_comfort 15 = .ok (.invokestatic 233, 3) := by decide +kernel
theorem dX9_comfort_18 : decode cX9_comfort 18 = .ok (.aload 4, 2) := by decide +kernel
theorem dX9_comfort_20 : decode cX9_comfort 20 = .ok (.aload_n 3, 1) := by decide +kernel
theorem dX9_comfort_21 : decode cX9_comfort 21 = .ok (.aload_n 0, 1) := by decide +kernel
theorem dX9_comfort_22 : decode cX9_comfort 22 = .ok (.getfield 28, 3) := by decide +kernel
theorem dX9_comfort_25 : decode cX9_comfort 25 = .ok (.invokevirtual 237, 3) := by decide +kernel
theorem dX9_comfort_28 : decode cX9_comfort 28 = .ok (.iconst 0, 1) := by decide +kernel
theorem dX9_comfort_29 : decode cX9_comfort 29 = .ok (.istore 5, 2) := by decide +kernel
theorem dX9_comfort_31 : decode cX9_comfort 31 = .ok (.iconst 0, 1) := by decide +kernel
theorem dX9_comfort_32 : decode cX9_comfort 32 = .ok (.istore 6, 2) := by decide +kernel
theorem dX9_comfort_34 : decode cX9_comfort 34 = .ok (.iload 6, 2) := by decide +kernel
theorem dX9_comfort_36 : decode cX9_comfort 36 = .ok (.aload 4, 2) := by decide +kernel
theorem dX9_comfort_38 : decode cX9_comfort 38 = .ok (.getfield 66, 3) := by decide +kernel
theorem dX9_comfort_41 : decode cX9_comfort 41 = .ok (.invokevirtual 245, 3) := by decide +kernel
theorem dX9_comfort_44 : decode cX9_comfort 44 = .ok (.if_icmp .ge 56, 3) := by decide +kernel
theorem dX9_comfort_47 : decode cX9_comfort 47 = .ok (.aload 4, 2) := by decide +kernel
theorem dX9_comfort_49 : decode cX9_comfort 49 = .ok (.getfield 66, 3) := by decide +kernel
theorem dX9_comfort_52 : decode cX9_comfort 52 = .ok (.iload 6, 2) := by decide +kernel
theorem dX9_comfort_54 : decode cX9_comfort 54 = .ok (.invokevirtual 248, 3) := by decide +kernel
theorem dX9_comfort_57 : decode cX9_comfort 57 = .ok (.istore 7, 2) := by decide +kernel
theorem dX9_comfort_59 : decode cX9_comfort 59 = .ok (.aload_n 3, 1) := by decide +kernel
theorem dX9_comfort_60 : decode cX9_comfort 60 = .ok (.iload 7, 2) := by decide +kernel
theorem dX9_comfort_62 : decode cX9_comfort 62 = .ok (.invokevirtual 98, 3) := by decide +kernel
theorem dX9_comfort_65 : decode cX9_comfort 65 = .ok (.istore 8, 2) := by decide +kernel
theorem dX9_comfort_67 : decode cX9_comfort 67 = .ok (.iload 8, 2) := by decide +kernel
theorem dX9_comfort_69 : decode cX9_comfort 69 = .ok (.ifCond .le 25, 3) := by decide +kernel
theorem dX9_comfort_72 : decode cX9_comfort 72 = .ok (.iload 8, 2) := by decide +kernel
theorem dX9_comfort_74 : decode cX9_comfort 74 = .ok (.aload_n 0, 1) := by decide +kernel
theorem dX9_comfort_75 : decode cX9_comfort 75 = .ok (.getfield 28, 3) := by decide +kernel
theorem dX9_comfort_78 : decode cX9_comfort 78 = .ok (.iload 7, 2) := by decide +kernel
theorem dX9_comfort_80 : decode cX9_comfort 80 = .ok (.invokevirtual 98, 3) := by decide +kernel
theorem dX9_comfort_83 : decode cX9_comfort 83 = .ok (.invokestatic 241, 3) := by decide +kernel
theorem dX9_comfort_86 : decode cX9_comfort 86 = .ok (.bipush 100, 2) := by decide +kernel
theorem dX9_comfort_88 : decode cX9_comfort 88 = .ok (.if_icmp .gt 6, 3) := by decide +kernel
theorem dX9_comfort_91 : decode cX9_comfort 91 = .ok (.iinc 5 1, 3) := by decide +kernel
theorem dX9_comfort_94 : decode cX9_comfort 94 = .ok (.iinc 6 1, 3) := by decide +kernel
theorem dX9_comfort_97 : decode cX9_comfort 97 = .ok (.goto (-63), 3) := by decide +kernel
theorem dX9_comfort_100 : decode cX9_comfort 100 = .ok (.iload 5, 2) := by decide +kernel
theorem dX9_comfort_102 : decode cX9_comfort 102 = .ok (.ireturn, 1) := by decide +kernel
theorem dX9_fit_0 : decode cX9_fit 0 = .ok (.aload_n 0, 1) := by decide +kernel
theorem dX9_fit_1 : decode cX9_fit 1 = .ok (.iload_n 1, 1) := by decide +kernel
theorem dX9_fit_2 : decode cX9_fit 2 = .ok (.invokevirtual 226, 3) := by decide +kernel
theorem dX9_fit_5 : decode cX9_fit 5 = .ok (.astore 4, 2) := by decide +kernel
theorem dX9_fit_7 : decode cX9_fit 7 = .ok (.aload_n 0, 1) := by decide +kernel
theorem dX9_fit_8 : decode cX9_fit 8 = .ok (.iload_n 2, 1) := by decide +kernel
theorem dX9_fit_9 : decode cX9_fit 9 = .ok (.invokevirtual 226, 3) := by decide +kernel
theorem dX9_fit_12 : decode cX9_fit 12 = .ok (.astore 5, 2) := by decide +kernel
theorem dX9_fit_14 : decode cX9_fit 14 = .ok (.aload_n 0, 1) := by decide +kernel
theorem dX9_fit_15 : decode cX9_fit 15 = .ok (.iload_n 3, 1) := by decide +kernel
theorem dX9_fit_16 : decode cX9_fit 16 = .ok (.invokevirtual 58, 3) := by decide +kernel
theorem dX9_fit_19 : decode cX9_fit 19 = .ok (.astore 6, 2) := by decide +kernel
theorem dX9_fit_21 : decode cX9_fit 21 = .ok (.aload 6, 2) := by decide +kernel
theorem dX9_fit_23 : decode cX9_fit 23 = .ok (.invokestatic 233, 3) := by decide +kernel
theorem dX9_fit_26 : decode cX9_fit 26 = .ok (.aload 6, 2) := by decide +kernel
theorem dX9_fit_28 : decode cX9_fit 28 = .ok (.aload 4, 2) := by decide +kernel
theorem dX9_fit_30 : decode cX9_fit 30 = .ok (.aload_n 0, 1) := by decide +kernel
theorem dX9_fit_31 : decode cX9_fit 31 = .ok (.getfield 28, 3) := by decide +kernel
theorem dX9_fit_34 : decode cX9_fit 34 = .ok (.invokevirtual 237, 3) := by decide +kernel
theorem dX9_fit_37 : decode cX9_fit 37 = .ok (.aload 6, 2) := by decide +kernel
theorem dX9_fit_39 : decode cX9_fit 39 = .ok (.aload 5, 2) := by decide +kernel
theorem dX9_fit_41 : decode cX9_fit 41 = .ok (.aload_n 0, 1) := by decide +kernel
theorem dX9_fit_42 : decode cX9_fit 42 = .ok (.getfield 32, 3) := by decide +kernel
theorem dX9_fit_45 : decode cX9_fit 45 = .ok (.invokevirtual 237, 3) := by decide +kernel
theorem dX9_fit_48 : decode cX9_fit 48 = .ok (.iconst 0, 1) := by decide +kernel
theorem dX9_fit_49 : decode cX9_fit 49 = .ok (.istore 7, 2) := by decide +kernel
theorem dX9_fit_51 : decode cX9_fit 51 = .ok (.iconst 0, 1) := by decide +kernel
theorem dX9_fit_52 : decode cX9_fit 52 = .ok (.istore 8, 2) := by decide +kernel
theorem dX9_fit_54 : decode cX9_fit 54 = .ok (.iload 8, 2) := by decide +kernel
theorem dX9_fit_56 : decode cX9_fit 56 = .ok (.aload 6, 2) := by decide +kernel
theorem dX9_fit_58 : decode cX9_fit 58 = .ok (.getfield 66, 3) := by decide +kernel
theorem dX9_fit_61 : decode cX9_fit 61 = .ok (.invokevirtual 245, 3) := by decide +kernel
theorem dX9_fit_64 : decode cX9_fit 64 = .ok (.if_icmp .ge 48, 3) := by decide +kernel
theorem dX9_fit_67 : decode cX9_fit 67 = .ok (.aload 6, 2) := by decide +kernel
theorem dX9_fit_69 : decode cX9_fit 69 = .ok (.getfield 66, 3) := by decide +kernel
theorem dX9_fit_72 : decode cX9_fit 72 = .ok (.iload 8, 2) := by decide +kernel
theorem dX9_fit_74 : decode cX9_fit 74 = .ok (.invokevirtual 248, 3) := by decide +kernel
theorem dX9_fit_77 : decode cX9_fit 77 = .ok (.istore 9, 2) := by decide +kernel
theorem dX9_fit_79 : decode cX9_fit 79 = .ok (.iload 7, 2) := by decide +kernel
theorem dX9_fit_81 : decode cX9_fit 81 = .ok (.aload_n 0, 1) := by decide +kernel
theorem dX9_fit_82 : decode cX9_fit 82 = .ok (.getfield 28, 3) := by decide +kernel
theorem dX9_fit_85 : decode cX9_fit 85 = .ok (.iload 9, 2) := by decide +kernel
theorem dX9_fit_87 : decode cX9_fit 87 = .ok (.invokevirtual 98, 3) := by decide +kernel
theorem dX9_fit_90 : decode cX9_fit 90 = .ok (.aload_n 0, 1) := by decide +kernel
theorem dX9_fit_91 : decode cX9_fit 91 = .ok (.getfield 32, 3) := by decide +kernel
theorem dX9_fit_94 : decode cX9_fit 94 = .ok (.iload 9, 2) := by decide +kernel
theorem dX9_fit_96 : decode cX9_fit 96 = .ok (.invokevirtual 98, 3) := by decide +kernel
theorem dX9_fit_99 : decode cX9_fit 99 = .ok (.isub, 1) := by decide +kernel
theorem dX9_fit_100 : decode cX9_fit 100 = .ok (.invokestatic 121, 3) := by decide +kernel
theorem dX9_fit_103 : decode cX9_fit 103 = .ok (.iadd, 1) := by decide +kernel
theorem dX9_fit_104 : decode cX9_fit 104 = .ok (.istore 7, 2) := by decide +kernel
theorem dX9_fit_106 : decode cX9_fit 106 = .ok (.iinc 8 1, 3) := by decide +kernel
theorem dX9_fit_109 : decode cX9_fit 109 = .ok (.goto (-55), 3) := by decide +kernel
theorem dX9_fit_112 : decode cX9_fit 112 = .ok (.iload 7, 2) := by decide +kernel
theorem dX9_fit_114 : decode cX9_fit 114 = .ok (.ireturn, 1) := by decide +kernel
theorem dX9_cloth_0 : decode cX9_cloth 0 = .ok (.iload_n 1, 1) := by decide +kernel
theorem dX9_cloth_1 : decode cX9_cloth 1 = .ok (.bipush 50, 2) := by decide +kernel
theorem dX9_cloth_3 : decode cX9_cloth 3 = .ok (.sipush 2000, 3) := by decide +kernel
theorem dX9_cloth_6 : decode cX9_cloth 6 = .ok (.invokestatic 42, 3) := by decide +kernel
theorem dX9_cloth_9 : decode cX9_cloth 9 = .ok (.iload_n 2, 1) := by decide +kernel
theorem dX9_cloth_10 : decode cX9_cloth 10 = .ok (.iconst 1, 1) := by decide +kernel
theorem dX9_cloth_11 : decode cX9_cloth 11 = .ok (.bipush 60, 2) := by decide +kernel
theorem dX9_cloth_13 : decode cX9_cloth 13 = .ok (.invokestatic 42, 3) := by decide +kernel
theorem dX9_cloth_16 : decode cX9_cloth 16 = .ok (.aload_n 0, 1) := by decide +kernel
theorem dX9_cloth_17 : decode cX9_cloth 17 = .ok (.getfield 19, 3) := by decide +kernel
theorem dX9_cloth_20 : decode cX9_cloth 20 = .ok (.invokevirtual 46, 3) := by decide +kernel
theorem dX9_cloth_23 : decode cX9_cloth 23 = .ok (.iconst 4, 1) := by decide +kernel
theorem dX9_cloth_24 : decode cX9_cloth 24 = .ok (.invokestatic 50, 3) := by decide +kernel
theorem dX9_cloth_27 : decode cX9_cloth 27 = .ok (.aload_n 0, 1) := by decide +kernel
theorem dX9_cloth_28 : decode cX9_cloth 28 = .ok (.getfield 19, 3) := by decide +kernel
theorem dX9_cloth_31 : decode cX9_cloth 31 = .ok (.new 158, 3) := by decide +kernel
theorem dX9_cloth_34 : decode cX9_cloth 34 = .ok (.dup, 1) := by decide +kernel
theorem dX9_cloth_35 : decode cX9_cloth 35 = .ok (.iload_n 1, 1) := by decide +kernel
theorem dX9_cloth_36 : decode cX9_cloth 36 = .ok (.iload_n 2, 1) := by decide +kernel
theorem dX9_cloth_37 : decode cX9_cloth 37 = .ok (.invokespecial 251, 3) := by decide +kernel
theorem dX9_cloth_40 : decode cX9_cloth 40 = .ok (.invokevirtual 38, 3) := by decide +kernel
theorem dX9_cloth_43 : decode cX9_cloth 43 = .ok (.pop, 1) := by decide +kernel
theorem dX9_cloth_44 : decode cX9_cloth 44 = .ok (.aload_n 0, 1) := by decide +kernel
theorem dX9_cloth_45 : decode cX9_cloth 45 = .ok (.getfield 19, 3) := by decide +kernel
theorem dX9_cloth_48 : decode cX9_cloth 48 = .ok (.invokevirtual 46, 3) := by decide +kernel
theorem dX9_cloth_51 : decode cX9_cloth 51 = .ok (.iconst 1, 1) := by decide +kernel
theorem dX9_cloth_52 : decode cX9_cloth 52 = .ok (.isub, 1) := by decide +kernel
theorem dX9_cloth_53 : decode cX9_cloth 53 = .ok (.ireturn, 1) := by decide +kernel
theorem dX9_flaw_0 : decode cX9_flaw 0 = .ok (.aload_n 0, 1) := by decide +kernel
theorem dX9_flaw_1 : decode cX9_flaw 1 = .ok (.iload_n 1, 1) := by decide +kernel
theorem dX9_flaw_2 : decode cX9_flaw 2 = .ok (.invokevirtual 153, 3) := by decide +kernel
theorem dX9_flaw_5 : decode cX9_flaw 5 = .ok (.astore_n 3, 1) := by decide +kernel
theorem dX9_flaw_6 : decode cX9_flaw 6 = .ok (.iload_n 2, 1) := by decide +kernel
theorem dX9_flaw_7 : decode cX9_flaw 7 = .ok (.aload_n 3, 1) := by decide +kernel
theorem dX9_flaw_8 : decode cX9_flaw 8 = .ok (.getfield 252, 3) := by decide +kernel
theorem dX9_flaw_11 : decode cX9_flaw 11 = .ok (.invokestatic 111, 3) := by decide +kernel
theorem dX9_flaw_14 : decode cX9_flaw 14 = .ok (.iload_n 2, 1) := by decide +kernel
theorem dX9_flaw_15 : decode cX9_flaw 15 = .ok (.aload_n 3, 1) := by decide +kernel
theorem dX9_flaw_16 : decode cX9_flaw 16 = .ok (.getfield 173, 3) := by decide +kernel
theorem dX9_flaw_19 : decode cX9_flaw 19 = .ok (.if_icmp .lt 14, 3) := by decide +kernel
theorem dX9_flaw_22 : decode cX9_flaw 22 = .ok (.aload_n 3, 1) := by decide +kernel
theorem dX9_flaw_23 : decode cX9_flaw 23 = .ok (.iload_n 2, 1) := by decide +kernel
theorem dX9_flaw_24 : decode cX9_flaw 24 = .ok (.iload_n 2, 1) := by decide +kernel
theorem dX9_flaw_25 : decode cX9_flaw 25 = .ok (.iconst 1, 1) := by decide +kernel
theorem dX9_flaw_26 : decode cX9_flaw 26 = .ok (.iadd, 1) := by decide +kernel
theorem dX9_flaw_27 : decode cX9_flaw 27 = .ok (.invokevirtual 255, 3) := by decide +kernel
theorem dX9_flaw_30 : decode cX9_flaw 30 = .ok (.ifCond .eq 14, 3) := by decide +kernel
theorem dX9_flaw_33 : decode cX9_flaw 33 = .ok (.new 180, 3) := by decide +kernel
theorem dX9_flaw_36 : decode cX9_flaw 36 = .ok (.dup, 1) := by decide +kernel
theorem dX9_flaw_37 : decode cX9_flaw 37 = .ok (.ldc_w 259, 3) := by decide +kernel
theorem dX9_flaw_40 : decode cX9_flaw 40 = .ok (.invokespecial 184, 3) := by decide +kernel
theorem dX9_flaw_43 : decode cX9_flaw 43 = .ok (.athrow, 1) := by decide +kernel
theorem dX9_flaw_44 : decode cX9_flaw 44 = .ok (.aload_n 3, 1) := by decide +kernel
theorem dX9_flaw_45 : decode cX9_flaw 45 = .ok (.getfield 261, 3) := by decide +kernel
theorem dX9_flaw_48 : decode cX9_flaw 48 = .ok (.bipush 10, 2) := by decide +kernel
theorem dX9_flaw_50 : decode cX9_flaw 50 = .ok (.invokestatic 50, 3) := by decide +kernel
theorem dX9_flaw_53 : decode cX9_flaw 53 = .ok (.aload_n 3, 1) := by decide +kernel
theorem dX9_flaw_54 : decode cX9_flaw 54 = .ok (.iload_n 2, 1) := by decide +kernel
theorem dX9_flaw_55 : decode cX9_flaw 55 = .ok (.invokevirtual 264, 3) := by decide +kernel
theorem dX9_flaw_58 : decode cX9_flaw 58 = .ok (.ireturn, 1) := by decide +kernel
theorem dX9_left_0 : decode cX9_left 0 = .ok (.aload_n 0, 1) := by decide +kernel
theorem dX9_left_1 : decode cX9_left 1 = .ok (.iload_n 1, 1) := by decide +kernel
theorem dX9_left_2 : decode cX9_left 2 = .ok (.invokevirtual 153, 3) := by decide +kernel
theorem dX9_left_5 : decode cX9_left 5 = .ok (.astore_n 2, 1) := by decide +kernel
theorem dX9_left_6 : decode cX9_left 6 = .ok (.aload_n 2, 1) := by decide +kernel
theorem dX9_left_7 : decode cX9_left 7 = .ok (.getfield 252, 3) := by decide +kernel
theorem dX9_left_10 : decode cX9_left 10 = .ok (.aload_n 2, 1) := by decide +kernel
theorem dX9_left_11 : decode cX9_left 11 = .ok (.getfield 173, 3) := by decide +kernel
theorem dX9_left_14 : decode cX9_left 14 = .ok (.isub, 1) := by decide +kernel
theorem dX9_left_15 : decode cX9_left 15 = .ok (.ireturn, 1) := by decide +kernel
theorem dX9_panel_0 : decode cX9_panel 0 = .ok (.aload_n 0, 1) := by decide +kernel
theorem dX9_panel_1 : decode cX9_panel 1 = .ok (.iload_n 1, 1) := by decide +kernel
theorem dX9_panel_2 : decode cX9_panel 2 = .ok (.invokevirtual 58, 3) := by decide +kernel
theorem dX9_panel_5 : decode cX9_panel 5 = .ok (.getfield 267, 3) := by decide +kernel
theorem dX9_panel_8 : decode cX9_panel 8 = .ok (.astore_n 3, 1) := by decide +kernel
theorem dX9_panel_9 : decode cX9_panel 9 = .ok (.iload_n 2, 1) := by decide +kernel
theorem dX9_panel_10 : decode cX9_panel 10 = .ok (.aload_n 3, 1) := by decide +kernel
theorem dX9_panel_11 : decode cX9_panel 11 = .ok (.getfield 271, 3) := by decide +kernel
theorem dX9_panel_14 : decode cX9_panel 14 = .ok (.invokestatic 194, 3) := by decide +kernel
theorem dX9_panel_17 : decode cX9_panel 17 = .ok (.aload_n 3, 1) := by decide +kernel
theorem dX9_panel_18 : decode cX9_panel 18 = .ok (.iload_n 2, 1) := by decide +kernel
theorem dX9_panel_19 : decode cX9_panel 19 = .ok (.invokevirtual 276, 3) := by decide +kernel
theorem dX9_panel_22 : decode cX9_panel 22 = .ok (.ireturn, 1) := by decide +kernel
theorem dX9_use_0 : decode cX9_use 0 = .ok (.aload_n 0, 1) := by decide +kernel
theorem dX9_use_1 : decode cX9_use 1 = .ok (.iload_n 1, 1) := by decide +kernel
theorem dX9_use_2 : decode cX9_use 2 = .ok (.invokevirtual 58, 3) := by decide +kernel
theorem dX9_use_5 : decode cX9_use 5 = .ok (.astore_n 3, 1) := by decide +kernel
theorem dX9_use_6 : decode cX9_use 6 = .ok (.iload_n 2, 1) := by decide +kernel
theorem dX9_use_7 : decode cX9_use 7 = .ok (.iconst 1, 1) := by decide +kernel
theorem dX9_use_8 : decode cX9_use 8 = .ok (.sipush 9999, 3) := by decide +kernel
theorem dX9_use_11 : decode cX9_use 11 = .ok (.invokestatic 42, 3) := by decide +kernel
theorem dX9_use_14 : decode cX9_use 14 = .ok (.aload_n 3, 1) := by decide +kernel
theorem dX9_use_15 : decode cX9_use 15 = .ok (.iload_n 2, 1) := by decide +kernel
theorem dX9_use_16 : decode cX9_use 16 = .ok (.invokestatic 279, 3) := by decide +kernel
theorem dX9_use_19 : decode cX9_use 19 = .ok (.aload_n 3, 1) := by decide +kernel
theorem dX9_use_20 : decode cX9_use 20 = .ok (.iload_n 2, 1) := by decide +kernel
theorem dX9_use_21 : decode cX9_use 21 = .ok (.invokevirtual 282, 3) := by decide +kernel
theorem dX9_use_24 : decode cX9_use 24 = .ok (.ireturn, 1) := by decide +kernel
theorem dX9_pound_0 : decode cX9_pound 0 = .ok (.aload_n 0, 1) := by decide +kernel
theorem dX9_pound_1 : decode cX9_pound 1 = .ok (.iload_n 1, 1) := by decide +kernel
theorem dX9_pound_2 : decode cX9_pound 2 = .ok (.invokevirtual 58, 3) := by decide +kernel
theorem dX9_pound_5 : decode cX9_pound 5 = .ok (.astore_n 3, 1) := by decide +kernel
theorem dX9_pound_6 : decode cX9_pound 6 = .ok (.iload_n 2, 1) := by decide +kernel
theorem dX9_pound_7 : decode cX9_pound 7 = .ok (.iconst 1, 1) := by decide +kernel
theorem dX9_pound_8 : decode cX9_pound 8 = .ok (.sipush 3000, 3) := by decide +kernel
theorem dX9_pound_11 : decode cX9_pound 11 = .ok (.invokestatic 42, 3) := by decide +kernel
theorem dX9_pound_14 : decode cX9_pound 14 = .ok (.aload_n 3, 1) := by decide +kernel
theorem dX9_pound_15 : decode cX9_pound 15 = .ok (.iload_n 2, 1) := by decide +kernel
theorem dX9_pound_16 : decode cX9_pound 16 = .ok (.iconst 3, 1) := by decide +kernel
theorem dX9_pound_17 : decode cX9_pound 17 = .ok (.imul, 1) := by decide +kernel
theorem dX9_pound_18 : decode cX9_pound 18 = .ok (.invokestatic 279, 3) := by decide +kernel
theorem dX9_pound_21 : decode cX9_pound 21 = .ok (.aload_n 3, 1) := by decide +kernel
theorem dX9_pound_22 : decode cX9_pound 22 = .ok (.iload_n 2, 1) := by decide +kernel
theorem dX9_pound_23 : decode cX9_pound 23 = .ok (.iconst 3, 1) := by decide +kernel
theorem dX9_pound_24 : decode cX9_pound 24 = .ok (.imul, 1) := by decide +kernel
theorem dX9_pound_25 : decode cX9_pound 25 = .ok (.invokevirtual 282, 3) := by decide +kernel
theorem dX9_pound_28 : decode cX9_pound 28 = .ok (.ireturn, 1) := by decide +kernel
theorem dX9_hours_0 : decode cX9_hours 0 = .ok (.aload_n 0, 1) := by decide +kernel
theorem dX9_hours_1 : decode cX9_hours 1 = .ok (.iload_n 1, 1) := by decide +kernel
theorem dX9_hours_2 : decode cX9_hours 2 = .ok (.invokevirtual 58, 3) := by decide +kernel
theorem dX9_hours_5 : decode cX9_hours 5 = .ok (.astore_n 2, 1) := by decide +kernel
theorem dX9_hours_6 : decode cX9_hours 6 = .ok (.aload_n 2, 1) := by decide +kernel
theorem dX9_hours_7 : decode cX9_hours 7 = .ok (.invokestatic 285, 3) := by decide +kernel
theorem dX9_hours_10 : decode cX9_hours 10 = .ok (.aload_n 2, 1) := by decide +kernel
theorem dX9_hours_11 : decode cX9_hours 11 = .ok (.getfield 267, 3) := by decide +kernel
theorem dX9_hours_14 : decode cX9_hours 14 = .ok (.getfield 288, 3) := by decide +kernel
theorem dX9_hours_17 : decode cX9_hours 17 = .ok (.ireturn, 1) := by decide +kernel
theorem dX9_land_0 : decode cX9_land 0 = .ok (.aload_n 0, 1) := by decide +kernel
theorem dX9_land_1 : decode cX9_land 1 = .ok (.iload_n 1, 1) := by decide +kernel
theorem dX9_land_2 : decode cX9_land 2 = .ok (.invokevirtual 291, 3) := by decide +kernel
theorem dX9_land_5 : decode cX9_land 5 = .ok (.astore 4, 2) := by decide +kernel
theorem dX9_land_7 : decode cX9_land 7 = .ok (.iload_n 2, 1) := by decide +kernel
theorem dX9_land_8 : decode cX9_land 8 = .ok (.bipush 45, 2) := by decide +kernel
theorem dX9_land_10 : decode cX9_land 10 = .ok (.if_icmp .eq 7, 3) := by decide +kernel
theorem dX9_land_13 : decode cX9_land 13 = .ok (.iload_n 2, 1) := by decide +kernel
theorem dX9_land_14 : decode cX9_land 14 = .ok (.invokestatic 126, 3) := by decide +kernel
theorem dX9_land_17 : decode cX9_land 17 = .ok (.iload_n 3, 1) := by decide +kernel
theorem dX9_land_18 : decode cX9_land 18 = .ok (.iconst 0, 1) := by decide +kernel
theorem dX9_land_19 : decode cX9_land 19 = .ok (.iconst 4, 1) := by decide +kernel
theorem dX9_land_20 : decode cX9_land 20 = .ok (.invokestatic 42, 3) := by decide +kernel
theorem dX9_land_23 : decode cX9_land 23 = .ok (.aload 4, 2) := by decide +kernel
theorem dX9_land_25 : decode cX9_land 25 = .ok (.getfield 295, 3) := by decide +kernel
theorem dX9_land_28 : decode cX9_land 28 = .ok (.istore 5, 2) := by decide +kernel
theorem dX9_land_30 : decode cX9_land 30 = .ok (.aload 4, 2) := by decide +kernel
theorem dX9_land_32 : decode cX9_land 32 = .ok (.iload_n 2, 1) := by decide +kernel
theorem dX9_land_33 : decode cX9_land 33 = .ok (.putfield 298, 3) := by decide +kernel
theorem dX9_land_36 : decode cX9_land 36 = .ok (.aload 4, 2) := by decide +kernel
theorem dX9_land_38 : decode cX9_land 38 = .ok (.iload_n 3, 1) := by decide +kernel
theorem dX9_land_39 : decode cX9_land 39 = .ok (.putfield 295, 3) := by decide +kernel
theorem dX9_land_42 : decode cX9_land 42 = .ok (.iload 5, 2) := by decide +kernel
theorem dX9_land_44 : decode cX9_land 44 = .ok (.ireturn, 1) := by decide +kernel
theorem dX9_burns_0 : decode cX9_burns 0 = .ok (.aload_n 0, 1) := by decide +kernel
theorem dX9_burns_1 : decode cX9_burns 1 = .ok (.iload_n 1, 1) := by decide +kernel
theorem dX9_burns_2 : decode cX9_burns 2 = .ok (.invokevirtual 58, 3) := by decide +kernel
theorem dX9_burns_5 : decode cX9_burns 5 = .ok (.getfield 130, 3) := by decide +kernel
theorem dX9_burns_8 : decode cX9_burns 8 = .ok (.astore_n 3, 1) := by decide +kernel
theorem dX9_burns_9 : decode cX9_burns 9 = .ok (.aload_n 0, 1) := by decide +kernel
theorem dX9_burns_10 : decode cX9_burns 10 = .ok (.iload_n 2, 1) := by decide +kernel
theorem dX9_burns_11 : decode cX9_burns 11 = .ok (.invokevirtual 291, 3) := by decide +kernel
theorem dX9_burns_14 : decode cX9_burns 14 = .ok (.astore 4, 2) := by decide +kernel
theorem dX9_burns_16 : decode cX9_burns 16 = .ok (.aload_n 3, 1) := by decide +kernel
theorem dX9_burns_17 : decode cX9_burns 17 = .ok (.invokevirtual 302, 3) := by decide +kernel
theorem dX9_burns_20 : decode cX9_burns 20 = .ok (.ifCond .le 31, 3) := by decide +kernel
theorem dX9_burns_23 : decode cX9_burns 23 = .ok (.aload_n 3, 1) := by decide +kernel
theorem dX9_burns_24 : decode cX9_burns 24 = .ok (.invokevirtual 305, 3) := by decide +kernel
theorem dX9_burns_27 : decode cX9_burns 27 = .ok (.aload 4, 2) := by decide +kernel
theorem dX9_burns_29 : decode cX9_burns 29 = .ok (.getfield 298, 3) := by decide +kernel
theorem dX9_burns_32 : decode cX9_burns 32 = .ok (.if_icmp .eq 15, 3) := by decide +kernel
theorem dX9_burns_35 : decode cX9_burns 35 = .ok (.aload_n 3, 1) := by decide +kernel
theorem dX9_burns_36 : decode cX9_burns 36 = .ok (.invokevirtual 309, 3) := by decide +kernel
theorem dX9_burns_39 : decode cX9_burns 39 = .ok (.aload 4, 2) := by decide +kernel
theorem dX9_burns_41 : decode cX9_burns 41 = .ok (.getfield 295, 3) := by decide +kernel
theorem dX9_burns_44 : decode cX9_burns 44 = .ok (.if_icmp .le 7, 3) := by decide +kernel
theorem dX9_burns_47 : decode cX9_burns 47 = .ok (.iconst 1, 1) := by decide +kernel
theorem dX9_burns_48 : decode cX9_burns 48 = .ok (.goto 4, 3) := by decide +kernel
theorem dX9_burns_51 : decode cX9_burns 51 = .ok (.iconst 0, 1) := by decide +kernel
theorem dX9_burns_52 : decode cX9_burns 52 = .ok (.ireturn, 1) := by decide +kernel
theorem dX9_tack_0 : decode cX9_tack 0 = .ok (.aload_n 0, 1) := by decide +kernel
theorem dX9_tack_1 : decode cX9_tack 1 = .ok (.iload_n 1, 1) := by decide +kernel
theorem dX9_tack_2 : decode cX9_tack 2 = .ok (.invokevirtual 58, 3) := by decide +kernel
theorem dX9_tack_5 : decode cX9_tack 5 = .ok (.iload_n 2, 1) := by decide +kernel
theorem dX9_tack_6 : decode cX9_tack 6 = .ok (.invokestatic 210, 3) := by decide +kernel
theorem dX9_tack_9 : decode cX9_tack 9 = .ok (.astore 4, 2) := by decide +kernel
theorem dX9_tack_11 : decode cX9_tack 11 = .ok (.iload_n 3, 1) := by decide +kernel
theorem dX9_tack_12 : decode cX9_tack 12 = .ok (.sipush 1700, 3) := by decide +kernel
theorem dX9_tack_15 : decode cX9_tack 15 = .ok (.sipush 2100, 3) := by decide +kernel
theorem dX9_tack_18 : decode cX9_tack 18 = .ok (.invokestatic 42, 3) := by decide +kernel
theorem dX9_tack_21 : decode cX9_tack 21 = .ok (.aload 4, 2) := by decide +kernel
theorem dX9_tack_23 : decode cX9_tack 23 = .ok (.getfield 312, 3) := by decide +kernel
theorem dX9_tack_26 : decode cX9_tack 26 = .ok (.istore 5, 2) := by decide +kernel
theorem dX9_tack_28 : decode cX9_tack 28 = .ok (.aload 4, 2) := by decide +kernel
theorem dX9_tack_30 : decode cX9_tack 30 = .ok (.iload_n 3, 1) := by decide +kernel
theorem dX9_tack_31 : decode cX9_tack 31 = .ok (.putfield 312, 3) := by decide +kernel
theorem dX9_tack_34 : decode cX9_tack 34 = .ok (.iload 5, 2) := by decide +kernel
theorem dX9_tack_36 : decode cX9_tack 36 = .ok (.ireturn, 1) := by decide +kernel
theorem dX9_quarrels_0 : decode cX9_quarrels 0 = .ok (.aload_n 0, 1) := by decide +kernel
theorem dX9_quarrels_1 : decode cX9_quarrels 1 = .ok (.iload_n 1, 1) := by decide +kernel
theorem dX9_quarrels_2 : decode cX9_quarrels 2 = .ok (.invokevirtual 58, 3) := by decide +kernel
theorem dX9_quarrels_5 : decode cX9_quarrels 5 = .ok (.getfield 130, 3) := by decide +kernel
theorem dX9_quarrels_8 : decode cX9_quarrels 8 = .ok (.invokevirtual 315, 3) := by decide +kernel
theorem dX9_quarrels_11 : decode cX9_quarrels 11 = .ok (.ireturn, 1) := by decide +kernel
theorem dX9_promise_0 : decode cX9_promise 0 = .ok (.aload_n 0, 1) := by decide +kernel
theorem dX9_promise_1 : decode cX9_promise 1 = .ok (.iload_n 1, 1) := by decide +kernel
theorem dX9_promise_2 : decode cX9_promise 2 = .ok (.invokevirtual 58, 3) := by decide +kernel
theorem dX9_promise_5 : decode cX9_promise 5 = .ok (.astore_n 3, 1) := by decide +kernel
theorem dX9_promise_6 : decode cX9_promise 6 = .ok (.iload_n 2, 1) := by decide +kernel
theorem dX9_promise_7 : decode cX9_promise 7 = .ok (.iconst 0, 1) := by decide +kernel
theorem dX9_promise_8 : decode cX9_promise 8 = .ok (.bipush 100, 2) := by decide +kernel
theorem dX9_promise_10 : decode cX9_promise 10 = .ok (.invokestatic 42, 3) := by decide +kernel
theorem dX9_promise_13 : decode cX9_promise 13 = .ok (.aload_n 3, 1) := by decide +kernel
theorem dX9_promise_14 : decode cX9_promise 14 = .ok (.getfield 318, 3) := by decide +kernel
theorem dX9_promise_17 : decode cX9_promise 17 = .ok (.istore 4, 2) := by decide +kernel
theorem dX9_promise_19 : decode cX9_promise 19 = .ok (.aload_n 3, 1) := by decide +kernel
theorem dX9_promise_20 : decode cX9_promise 20 = .ok (.iload_n 2, 1) := by decide +kernel
theorem dX9_promise_21 : decode cX9_promise 21 = .ok (.putfield 318, 3) := by decide +kernel
theorem dX9_promise_24 : decode cX9_promise 24 = .ok (.iload 4, 2) := by decide +kernel
theorem dX9_promise_26 : decode cX9_promise 26 = .ok (.ireturn, 1) := by decide +kernel
theorem dX9_holds_0 : decode cX9_holds 0 = .ok (.aload_n 0, 1) := by decide +kernel
theorem dX9_holds_1 : decode cX9_holds 1 = .ok (.iload_n 1, 1) := by decide +kernel
theorem dX9_holds_2 : decode cX9_holds 2 = .ok (.invokevirtual 58, 3) := by decide +kernel
theorem dX9_holds_5 : decode cX9_holds 5 = .ok (.astore_n 2, 1) := by decide +kernel
theorem dX9_holds_6 : decode cX9_holds 6 = .ok (.aload_n 2, 1) := by decide +kernel
theorem dX9_holds_7 : decode cX9_holds 7 = .ok (.invokestatic 285, 3) := by decide +kernel
theorem dX9_holds_10 : decode cX9_holds 10 = .ok (.aload_n 2, 1) := by decide +kernel
theorem dX9_holds_11 : decode cX9_holds 11 = .ok (.getfield 267, 3) := by decide +kernel
theorem dX9_holds_14 : decode cX9_holds 14 = .ok (.getfield 321, 3) := by decide +kernel
theorem dX9_holds_17 : decode cX9_holds 17 = .ok (.aload_n 2, 1) := by decide +kernel
theorem dX9_holds_18 : decode cX9_holds 18 = .ok (.invokevirtual 324, 3) := by decide +kernel
theorem dX9_holds_21 : decode cX9_holds 21 = .ok (.isub, 1) := by decide +kernel
theorem dX9_holds_22 : decode cX9_holds 22 = .ok (.istore_n 3, 1) := by decide +kernel
theorem dX9_holds_23 : decode cX9_holds 23 = .ok (.iload_n 3, 1) := by decide +kernel
theorem dX9_holds_24 : decode cX9_holds 24 = .ok (.aload_n 2, 1) := by decide +kernel
theorem dX9_holds_25 : decode cX9_holds 25 = .ok (.getfield 267, 3) := by decide +kernel
theorem dX9_holds_28 : decode cX9_holds 28 = .ok (.getfield 321, 3) := by decide +kernel
theorem dX9_holds_31 : decode cX9_holds 31 = .ok (.aload_n 2, 1) := by decide +kernel
theorem dX9_holds_32 : decode cX9_holds 32 = .ok (.getfield 318, 3) := by decide +kernel
theorem dX9_holds_35 : decode cX9_holds 35 = .ok (.imul, 1) := by decide +kernel
theorem dX9_holds_36 : decode cX9_holds 36 = .ok (.bipush 100, 2) := by decide +kernel
theorem dX9_holds_38 : decode cX9_holds 38 = .ok (.idiv, 1) := by decide +kernel
theorem dX9_holds_39 : decode cX9_holds 39 = .ok (.if_icmp .gt 7, 3) := by decide +kernel
theorem dX9_holds_42 : decode cX9_holds 42 = .ok (.iconst 1, 1) := by decide +kernel
theorem dX9_holds_43 : decode cX9_holds 43 = .ok (.goto 4, 3) := by decide +kernel
theorem dX9_holds_46 : decode cX9_holds 46 = .ok (.iconst 0, 1) := by decide +kernel
theorem dX9_holds_47 : decode cX9_holds 47 = .ok (.ireturn, 1) := by decide +kernel
theorem dX9_quote_0 : decode cX9_quote 0 = .ok (.aload_n 0, 1) := by decide +kernel
theorem dX9_quote_1 : decode cX9_quote 1 = .ok (.iload_n 1, 1) := by decide +kernel
theorem dX9_quote_2 : decode cX9_quote 2 = .ok (.invokevirtual 58, 3) := by decide +kernel
theorem dX9_quote_5 : decode cX9_quote 5 = .ok (.invokevirtual 327, 3) := by decide +kernel
theorem dX9_quote_8 : decode cX9_quote 8 = .ok (.ireturn, 1) := by decide +kernel
theorem dX9_checksum_0 : decode cX9_checksum 0 = .ok (.ldc2_w 330, 3) := by decide +kernel
theorem dX9_checksum_3 : decode cX9_checksum 3 = .ok (.lstore_n 1, 1) := by decide +kernel
theorem dX9_checksum_4 : decode cX9_checksum 4 = .ok (.iconst 0, 1) := by decide +kernel
theorem dX9_checksum_5 : decode cX9_checksum 5 = .ok (.istore_n 3, 1) := by decide +kernel
theorem dX9_checksum_6 : decode cX9_checksum 6 = .ok (.iload_n 3, 1) := by decide +kernel
theorem dX9_checksum_7 : decode cX9_checksum 7 = .ok (.aload_n 0, 1) := by decide +kernel
theorem dX9_checksum_8 : decode cX9_checksum 8 = .ok (.getfield 10, 3) := by decide +kernel
theorem dX9_checksum_11 : decode cX9_checksum 11 = .ok (.invokevirtual 46, 3) := by decide +kernel
theorem dX9_checksum_14 : decode cX9_checksum 14 = .ok (.if_icmp .ge 83, 3) := by decide +kernel
theorem dX9_checksum_17 : decode cX9_checksum 17 = .ok (.aload_n 0, 1) := by decide +kernel
theorem dX9_checksum_18 : decode cX9_checksum 18 = .ok (.getfield 10, 3) := by decide +kernel
theorem dX9_checksum_21 : decode cX9_checksum 21 = .ok (.iload_n 3, 1) := by decide +kernel
theorem dX9_checksum_22 : decode cX9_checksum 22 = .ok (.invokevirtual 332, 3) := by decide +kernel
theorem dX9_checksum_25 : decode cX9_checksum 25 = .ok (.checkcast 54, 3) := by decide +kernel
theorem dX9_checksum_28 : decode cX9_checksum 28 = .ok (.astore 4, 2) := by decide +kernel
theorem dX9_checksum_30 : decode cX9_checksum 30 = .ok (.ldc2_w 336, 3) := by decide +kernel
theorem dX9_checksum_33 : decode cX9_checksum 33 = .ok (.lload_n 1, 1) := by decide +kernel
theorem dX9_checksum_34 : decode cX9_checksum 34 = .ok (.lmul, 1) := by decide +kernel
theorem dX9_checksum_35 : decode cX9_checksum 35 = .ok (.aload 4, 2) := by decide +kernel
theorem dX9_checksum_37 : decode cX9_checksum 37 = .ok (.getfield 76, 3) := by decide +kernel
theorem dX9_checksum_40 : decode cX9_checksum 40 = .ok (.getfield 188, 3) := by decide +kernel
theorem dX9_checksum_43 : decode cX9_checksum 43 = .ok (.i2l, 1) := by decide +kernel
theorem dX9_checksum_44 : decode cX9_checksum 44 = .ok (.ladd, 1) := by decide +kernel
theorem dX9_checksum_45 : decode cX9_checksum 45 = .ok (.lstore_n 1, 1) := by decide +kernel
theorem dX9_checksum_46 : decode cX9_checksum 46 = .ok (.iconst 0, 1) := by decide +kernel
theorem dX9_checksum_47 : decode cX9_checksum 47 = .ok (.istore 5, 2) := by decide +kernel
theorem dX9_checksum_49 : decode cX9_checksum 49 = .ok (.iload 5, 2) := by decide +kernel
theorem dX9_checksum_51 : decode cX9_checksum 51 = .ok (.aload 4, 2) := by decide +kernel
theorem dX9_checksum_53 : decode cX9_checksum 53 = .ok (.getfield 66, 3) := by decide +kernel
theorem dX9_checksum_56 : decode cX9_checksum 56 = .ok (.invokevirtual 245, 3) := by decide +kernel
theorem dX9_checksum_59 : decode cX9_checksum 59 = .ok (.if_icmp .ge 32, 3) := by decide +kernel
theorem dX9_checksum_62 : decode cX9_checksum 62 = .ok (.ldc2_w 336, 3) := by decide +kernel
theorem dX9_checksum_65 : decode cX9_checksum 65 = .ok (.lload_n 1, 1) := by decide +kernel
theorem dX9_checksum_66 : decode cX9_checksum 66 = .ok (.lmul, 1) := by decide +kernel
theorem dX9_checksum_67 : decode cX9_checksum 67 = .ok (.aload 4, 2) := by decide +kernel
theorem dX9_checksum_69 : decode cX9_checksum 69 = .ok (.aload 4, 2) := by decide +kernel
theorem dX9_checksum_71 : decode cX9_checksum 71 = .ok (.getfield 66, 3) := by decide +kernel
theorem dX9_checksum_74 : decode cX9_checksum 74 = .ok (.iload 5, 2) := by decide +kernel
theorem dX9_checksum_76 : decode cX9_checksum 76 = .ok (.invokevirtual 248, 3) := by decide +kernel
theorem dX9_checksum_79 : decode cX9_checksum 79 = .ok (.invokevirtual 217, 3) := by decide +kernel
theorem dX9_checksum_82 : decode cX9_checksum 82 = .ok (.i2l, 1) := by decide +kernel
theorem dX9_checksum_83 : decode cX9_checksum 83 = .ok (.ladd, 1) := by decide +kernel
theorem dX9_checksum_84 : decode cX9_checksum 84 = .ok (.lstore_n 1, 1) := by decide +kernel
theorem dX9_checksum_85 : decode cX9_checksum 85 = .ok (.iinc 5 1, 3) := by decide +kernel
theorem dX9_checksum_88 : decode cX9_checksum 88 = .ok (.goto (-39), 3) := by decide +kernel
theorem dX9_checksum_91 : decode cX9_checksum 91 = .ok (.iinc 3 1, 3) := by decide +kernel
theorem dX9_checksum_94 : decode cX9_checksum 94 = .ok (.goto (-88), 3) := by decide +kernel
theorem dX9_checksum_97 : decode cX9_checksum 97 = .ok (.lload_n 1, 1) := by decide +kernel
theorem dX9_checksum_98 : decode cX9_checksum 98 = .ok (.lreturn, 1) := by decide +kernel
theorem dX9_closedShare_0 : decode cX9_closedShare 0 = .ok (.aload_n 0, 1) := by decide +kernel
theorem dX9_closedShare_1 : decode cX9_closedShare 1 = .ok (.getfield 10, 3) := by decide +kernel
theorem dX9_closedShare_4 : decode cX9_closedShare 4 = .ok (.invokevirtual 338, 3) := by decide +kernel
theorem dX9_closedShare_7 : decode cX9_closedShare 7 = .ok (.ifCond .eq 14, 3) := by decide +kernel
theorem dX9_closedShare_10 : decode cX9_closedShare 10 = .ok (.new 166, 3) := by decide +kernel
theorem dX9_closedShare_13 : decode cX9_closedShare 13 = .ok (.dup, 1) := by decide +kernel
theorem dX9_closedShare_14 : decode cX9_closedShare 14 = .ok (.ldc_w 341, 3) := by decide +kernel
theorem dX9_closedShare_17 : decode cX9_closedShare 17 = .ok (.invokespecial 170, 3) := by decide +kernel
theorem dX9_closedShare_20 : decode cX9_closedShare 20 = .ok (.athrow, 1) := by decide +kernel
theorem dX9_closedShare_21 : decode cX9_closedShare 21 = .ok (.iconst 0, 1) := by decide +kernel
theorem dX9_closedShare_22 : decode cX9_closedShare 22 = .ok (.istore_n 1, 1) := by decide +kernel
theorem dX9_closedShare_23 : decode cX9_closedShare 23 = .ok (.iconst 0, 1) := by decide +kernel
theorem dX9_closedShare_24 : decode cX9_closedShare 24 = .ok (.istore_n 2, 1) := by decide +kernel
theorem dX9_closedShare_25 : decode cX9_closedShare 25 = .ok (.iload_n 2, 1) := by decide +kernel
theorem dX9_closedShare_26 : decode cX9_closedShare 26 = .ok (.aload_n 0, 1) := by decide +kernel
theorem dX9_closedShare_27 : decode cX9_closedShare 27 = .ok (.getfield 10, 3) := by decide +kernel
theorem dX9_closedShare_30 : decode cX9_closedShare 30 = .ok (.invokevirtual 46, 3) := by decide +kernel
theorem dX9_closedShare_33 : decode cX9_closedShare 33 = .ok (.if_icmp .ge 29, 3) := by decide +kernel
theorem dX9_closedShare_36 : decode cX9_closedShare 36 = .ok (.aload_n 0, 1) := by decide +kernel
theorem dX9_closedShare_37 : decode cX9_closedShare 37 = .ok (.getfield 10, 3) := by decide +kernel
theorem dX9_closedShare_40 : decode cX9_closedShare 40 = .ok (.iload_n 2, 1) := by decide +kernel
theorem dX9_closedShare_41 : decode cX9_closedShare 41 = .ok (.invokevirtual 332, 3) := by decide +kernel
theorem dX9_closedShare_44 : decode cX9_closedShare 44 = .ok (.checkcast 54, 3) := by decide +kernel
theorem dX9_closedShare_47 : decode cX9_closedShare 47 = .ok (.invokevirtual 204, 3) := by decide +kernel
theorem dX9_closedShare_50 : decode cX9_closedShare 50 = .ok (.ifCond .eq 6, 3) := by decide +kernel
theorem dX9_closedShare_53 : decode cX9_closedShare 53 = .ok (.iinc 1 1, 3) := by decide +kernel
theorem dX9_closedShare_56 : decode cX9_closedShare 56 = .ok (.iinc 2 1, 3) := by decide +kernel
theorem dX9_closedShare_59 : decode cX9_closedShare 59 = .ok (.goto (-34), 3) := by decide +kernel
theorem dX9_closedShare_62 : decode cX9_closedShare 62 = .ok (.iload_n 1, 1) := by decide +kernel
theorem dX9_closedShare_63 : decode cX9_closedShare 63 = .ok (.i2f, 1) := by decide +kernel
theorem dX9_closedShare_64 : decode cX9_closedShare 64 = .ok (.aload_n 0, 1) := by decide +kernel
theorem dX9_closedShare_65 : decode cX9_closedShare 65 = .ok (.getfield 10, 3) := by decide +kernel
theorem dX9_closedShare_68 : decode cX9_closedShare 68 = .ok (.invokevirtual 46, 3) := by decide +kernel
theorem dX9_closedShare_71 : decode cX9_closedShare 71 = .ok (.i2f, 1) := by decide +kernel
theorem dX9_closedShare_72 : decode cX9_closedShare 72 = .ok (.fdiv, 1) := by decide +kernel
theorem dX9_closedShare_73 : decode cX9_closedShare 73 = .ok (.freturn, 1) := by decide +kernel
theorem dX9_meanTop_0 : decode cX9_meanTop 0 = .ok (.aload_n 0, 1) := by decide +kernel
theorem dX9_meanTop_1 : decode cX9_meanTop 1 = .ok (.iload_n 1, 1) := by decide +kernel
theorem dX9_meanTop_2 : decode cX9_meanTop 2 = .ok (.invokevirtual 58, 3) := by decide +kernel
theorem dX9_meanTop_5 : decode cX9_meanTop 5 = .ok (.astore_n 2, 1) := by decide +kernel
theorem dX9_meanTop_6 : decode cX9_meanTop 6 = .ok (.aload_n 2, 1) := by decide +kernel
theorem dX9_meanTop_7 : decode cX9_meanTop 7 = .ok (.invokevirtual 324, 3) := by decide +kernel
theorem dX9_meanTop_10 : decode cX9_meanTop 10 = .ok (.i2d, 1) := by decide +kernel
theorem dX9_meanTop_11 : decode cX9_meanTop 11 = .ok (.aload_n 2, 1) := by decide +kernel
theorem dX9_meanTop_12 : decode cX9_meanTop 12 = .ok (.getfield 66, 3) := by decide +kernel
theorem dX9_meanTop_15 : decode cX9_meanTop 15 = .ok (.invokevirtual 245, 3) := by decide +kernel
theorem dX9_meanTop_18 : decode cX9_meanTop 18 = .ok (.i2d, 1) := by decide +kernel
theorem dX9_meanTop_19 : decode cX9_meanTop 19 = .ok (.ddiv, 1) := by decide +kernel
theorem dX9_meanTop_20 : decode cX9_meanTop 20 = .ok (.dreturn, 1) := by decide +kernel
theorem dX9_isSound_0 : decode cX9_isSound 0 = .ok (.iconst 0, 1) := by decide +kernel
theorem dX9_isSound_1 : decode cX9_isSound 1 = .ok (.istore_n 1, 1) := by decide +kernel
theorem dX9_isSound_2 : decode cX9_isSound 2 = .ok (.iload_n 1, 1) := by decide +kernel
theorem dX9_isSound_3 : decode cX9_isSound 3 = .ok (.aload_n 0, 1) := by decide +kernel
theorem dX9_isSound_4 : decode cX9_isSound 4 = .ok (.getfield 10, 3) := by decide +kernel
theorem dX9_isSound_7 : decode cX9_isSound 7 = .ok (.invokevirtual 46, 3) := by decide +kernel
theorem dX9_isSound_10 : decode cX9_isSound 10 = .ok (.if_icmp .ge 69, 3) := by decide +kernel
theorem dX9_isSound_13 : decode cX9_isSound 13 = .ok (.aload_n 0, 1) := by decide +kernel
theorem dX9_isSound_14 : decode cX9_isSound 14 = .ok (.getfield 10, 3) := by decide +kernel
theorem dX9_isSound_17 : decode cX9_isSound 17 = .ok (.iload_n 1, 1) := by decide +kernel
theorem dX9_isSound_18 : decode cX9_isSound 18 = .ok (.invokevirtual 332, 3) := by decide +kernel
theorem dX9_isSound_21 : decode cX9_isSound 21 = .ok (.checkcast 54, 3) := by decide +kernel
theorem dX9_isSound_24 : decode cX9_isSound 24 = .ok (.astore_n 2, 1) := by decide +kernel
theorem dX9_isSound_25 : decode cX9_isSound 25 = .ok (.aload_n 2, 1) := by decide +kernel
theorem dX9_isSound_26 : decode cX9_isSound 26 = .ok (.getfield 76, 3) := by decide +kernel
theorem dX9_isSound_29 : decode cX9_isSound 29 = .ok (.invokevirtual 343, 3) := by decide +kernel
theorem dX9_isSound_32 : decode cX9_isSound 32 = .ok (.ifCond .eq 39, 3) := by decide +kernel
theorem dX9_isSound_35 : decode cX9_isSound 35 = .ok (.aload_n 2, 1) := by decide +kernel
theorem dX9_isSound_36 : decode cX9_isSound 36 = .ok (.invokevirtual 346, 3) := by decide +kernel
theorem dX9_isSound_39 : decode cX9_isSound 39 = .ok (.ifCond .eq 32, 3) := by decide +kernel
theorem dX9_isSound_42 : decode cX9_isSound 42 = .ok (.aload_n 2, 1) := by decide +kernel
theorem dX9_isSound_43 : decode cX9_isSound 43 = .ok (.getfield 267, 3) := by decide +kernel
theorem dX9_isSound_46 : decode cX9_isSound 46 = .ok (.invokevirtual 349, 3) := by decide +kernel
theorem dX9_isSound_49 : decode cX9_isSound 49 = .ok (.ifCond .eq 22, 3) := by decide +kernel
theorem dX9_isSound_52 : decode cX9_isSound 52 = .ok (.aload_n 0, 1) := by decide +kernel
theorem dX9_isSound_53 : decode cX9_isSound 53 = .ok (.aload_n 2, 1) := by decide +kernel
theorem dX9_isSound_54 : decode cX9_isSound 54 = .ok (.getfield 267, 3) := by decide +kernel
theorem dX9_isSound_57 : decode cX9_isSound 57 = .ok (.invokevirtual 352, 3) := by decide +kernel
theorem dX9_isSound_60 : decode cX9_isSound 60 = .ok (.ifCond .eq 11, 3) := by decide +kernel
theorem dX9_isSound_63 : decode cX9_isSound 63 = .ok (.aload_n 0, 1) := by decide +kernel
theorem dX9_isSound_64 : decode cX9_isSound 64 = .ok (.aload_n 2, 1) := by decide +kernel
theorem dX9_isSound_65 : decode cX9_isSound 65 = .ok (.invokevirtual 356, 3) := by decide +kernel
theorem dX9_isSound_68 : decode cX9_isSound 68 = .ok (.ifCond .ne 5, 3) := by decide +kernel
theorem dX9_isSound_71 : decode cX9_isSound 71 = .ok (.iconst 0, 1) := by decide +kernel
theorem dX9_isSound_72 : decode cX9_isSound 72 = .ok (.ireturn, 1) := by decide +kernel
theorem dX9_isSound_73 : decode cX9_isSound 73 = .ok (.iinc 1 1, 3) := by decide +kernel
theorem dX9_isSound_76 : decode cX9_isSound 76 = .ok (.goto (-74), 3) := by decide +kernel
theorem dX9_isSound_79 : decode cX9_isSound 79 = .ok (.iconst 1, 1) := by decide +kernel
theorem dX9_isSound_80 : decode cX9_isSound 80 = .ok (.ireturn, 1) := by decide +kernel
theorem dX9_liesApart_0 : decode cX9_liesApart 0 = .ok (.iconst 0, 1) := by decide +kernel
theorem dX9_liesApart_1 : decode cX9_liesApart 1 = .ok (.istore_n 2, 1) := by decide +kernel
theorem dX9_liesApart_2 : decode cX9_liesApart 2 = .ok (.iload_n 2, 1) := by decide +kernel
theorem dX9_liesApart_3 : decode cX9_liesApart 3 = .ok (.aload_n 0, 1) := by decide +kernel
theorem dX9_liesApart_4 : decode cX9_liesApart 4 = .ok (.getfield 10, 3) := by decide +kernel
theorem dX9_liesApart_7 : decode cX9_liesApart 7 = .ok (.invokevirtual 46, 3) := by decide +kernel
theorem dX9_liesApart_10 : decode cX9_liesApart 10 = .ok (.if_icmp .ge 32, 3) := by decide +kernel
theorem dX9_liesApart_13 : decode cX9_liesApart 13 = .ok (.aload_n 1, 1) := by decide +kernel
theorem dX9_liesApart_14 : decode cX9_liesApart 14 = .ok (.aload_n 0, 1) := by decide +kernel
theorem dX9_liesApart_15 : decode cX9_liesApart 15 = .ok (.getfield 10, 3) := by decide +kernel
theorem dX9_liesApart_18 : decode cX9_liesApart 18 = .ok (.iload_n 2, 1) := by decide +kernel
theorem dX9_liesApart_19 : decode cX9_liesApart 19 = .ok (.invokevirtual 332, 3) := by decide +kernel
theorem dX9_liesApart_22 : decode cX9_liesApart 22 = .ok (.checkcast 54, 3) := by decide +kernel
theorem dX9_liesApart_25 : decode cX9_liesApart 25 = .ok (.getfield 267, 3) := by decide +kernel
theorem dX9_liesApart_28 : decode cX9_liesApart 28 = .ok (.invokevirtual 360, 3) := by decide +kernel
theorem dX9_liesApart_31 : decode cX9_liesApart 31 = .ok (.ifCond .eq 5, 3) := by decide +kernel
theorem dX9_liesApart_34 : decode cX9_liesApart 34 = .ok (.iconst 0, 1) := by decide +kernel
theorem dX9_liesApart_35 : decode cX9_liesApart 35 = .ok (.ireturn, 1) := by decide +kernel
theorem dX9_liesApart_36 : decode cX9_liesApart 36 = .ok (.iinc 2 1, 3) := by decide +kernel
theorem dX9_liesApart_39 : decode cX9_liesApart 39 = .ok (.goto (-37), 3) := by decide +kernel
theorem dX9_liesApart_42 : decode cX9_liesApart 42 = .ok (.iconst 1, 1) := by decide +kernel
theorem dX9_liesApart_43 : decode cX9_liesApart 43 = .ok (.ireturn, 1) := by decide +kernel
theorem dX9_sinksSoundly_0 : decode cX9_sinksSoundly 0 = .ok (.iconst 0, 1) := by decide +kernel
theorem dX9_sinksSoundly_1 : decode cX9_sinksSoundly 1 = .ok (.istore_n 2, 1) := by decide +kernel
theorem dX9_sinksSoundly_2 : decode cX9_sinksSoundly 2 = .ok (.iload_n 2, 1) := by decide +kernel
theorem dX9_sinksSoundly_3 : decode cX9_sinksSoundly 3 = .ok (.aload_n 0, 1) := by decide +kernel
theorem dX9_sinksSoundly_4 : decode cX9_sinksSoundly 4 = .ok (.getfield 16, 3) := by decide +kernel
theorem dX9_sinksSoundly_7 : decode cX9_sinksSoundly 7 = .ok (.invokevirtual 46, 3) := by decide +kernel
theorem dX9_sinksSoundly_10 : decode cX9_sinksSoundly 10 = .ok (.if_icmp .ge 41, 3) := by decide +kernel
theorem dX9_sinksSoundly_13 : decode cX9_sinksSoundly 13 = .ok (.aload_n 1, 1) := by decide +kernel
theorem dX9_sinksSoundly_14 : decode cX9_sinksSoundly 14 = .ok (.aload_n 0, 1) := by decide +kernel
theorem dX9_sinksSoundly_15 : decode cX9_sinksSoundly 15 = .ok (.getfield 16, 3) := by decide +kernel
theorem dX9_sinksSoundly_18 : decode cX9_sinksSoundly 18 = .ok (.iload_n 2, 1) := by decide +kernel
theorem dX9_sinksSoundly_19 : decode cX9_sinksSoundly 19 = .ok (.invokevirtual 332, 3) := by decide +kernel
theorem dX9_sinksSoundly_22 : decode cX9_sinksSoundly 22 = .ok (.checkcast 25, 3) := by decide +kernel
theorem dX9_sinksSoundly_25 : decode cX9_sinksSoundly 25 = .ok (.aload_n 0, 1) := by decide +kernel
theorem dX9_sinksSoundly_26 : decode cX9_sinksSoundly 26 = .ok (.getfield 28, 3) := by decide +kernel
theorem dX9_sinksSoundly_29 : decode cX9_sinksSoundly 29 = .ok (.invokevirtual 237, 3) := by decide +kernel
theorem dX9_sinksSoundly_32 : decode cX9_sinksSoundly 32 = .ok (.aload_n 1, 1) := by decide +kernel
theorem dX9_sinksSoundly_33 : decode cX9_sinksSoundly 33 = .ok (.aload_n 0, 1) := by decide +kernel
theorem dX9_sinksSoundly_34 : decode cX9_sinksSoundly 34 = .ok (.getfield 28, 3) := by decide +kernel
theorem dX9_sinksSoundly_37 : decode cX9_sinksSoundly 37 = .ok (.invokevirtual 363, 3) := by decide +kernel
theorem dX9_sinksSoundly_40 : decode cX9_sinksSoundly 40 = .ok (.ifCond .ne 5, 3) := by decide +kernel
theorem dX9_sinksSoundly_43 : decode cX9_sinksSoundly 43 = .ok (.iconst 0, 1) := by decide +kernel
theorem dX9_sinksSoundly_44 : decode cX9_sinksSoundly 44 = .ok (.ireturn, 1) := by decide +kernel
theorem dX9_sinksSoundly_45 : decode cX9_sinksSoundly 45 = .ok (.iinc 2 1, 3) := by decide +kernel
theorem dX9_sinksSoundly_48 : decode cX9_sinksSoundly 48 = .ok (.goto (-46), 3) := by decide +kernel
theorem dX9_sinksSoundly_51 : decode cX9_sinksSoundly 51 = .ok (.iconst 1, 1) := by decide +kernel
theorem dX9_sinksSoundly_52 : decode cX9_sinksSoundly 52 = .ok (.ireturn, 1) := by decide +kernel
theorem dX9_pressureOf_0 : decode cX9_pressureOf 0 = .ok (.bipush 100, 2) := by decide +kernel
theorem dX9_pressureOf_2 : decode cX9_pressureOf 2 = .ok (.iload_n 0, 1) := by decide +kernel
theorem dX9_pressureOf_3 : decode cX9_pressureOf 3 = .ok (.imul, 1) := by decide +kernel
theorem dX9_pressureOf_4 : decode cX9_pressureOf 4 = .ok (.i2l, 1) := by decide +kernel
theorem dX9_pressureOf_5 : decode cX9_pressureOf 5 = .ok (.bipush 10, 2) := by decide +kernel
theorem dX9_pressureOf_7 : decode cX9_pressureOf 7 = .ok (.iload_n 1, 1) := by decide +kernel
theorem dX9_pressureOf_8 : decode cX9_pressureOf 8 = .ok (.iadd, 1) := by decide +kernel
theorem dX9_pressureOf_9 : decode cX9_pressureOf 9 = .ok (.i2l, 1) := by decide +kernel
theorem dX9_pressureOf_10 : decode cX9_pressureOf 10 = .ok (.invokestatic 367, 3) := by decide +kernel
theorem dX9_pressureOf_13 : decode cX9_pressureOf 13 = .ok (.ireturn, 1) := by decide +kernel
theorem dX9_quotient_0 : decode cX9_quotient 0 = .ok (.lload_n 2, 1) := by decide +kernel
theorem dX9_quotient_1 : decode cX9_quotient 1 = .ok (.lconst 0, 1) := by decide +kernel
theorem dX9_quotient_2 : decode cX9_quotient 2 = .ok (.lcmp, 1) := by decide +kernel
theorem dX9_quotient_3 : decode cX9_quotient 3 = .ok (.ifCond .ne 7, 3) := by decide +kernel
theorem dX9_quotient_6 : decode cX9_quotient 6 = .ok (.iconst 0, 1) := by decide +kernel
theorem dX9_quotient_7 : decode cX9_quotient 7 = .ok (.goto 7, 3) := by decide +kernel
theorem dX9_quotient_10 : decode cX9_quotient 10 = .ok (.lload_n 0, 1) := by decide +kernel
theorem dX9_quotient_11 : decode cX9_quotient 11 = .ok (.lload_n 2, 1) := by decide +kernel
theorem dX9_quotient_12 : decode cX9_quotient 12 = .ok (.ldiv, 1) := by decide +kernel
theorem dX9_quotient_13 : decode cX9_quotient 13 = .ok (.l2i, 1) := by decide +kernel
theorem dX9_quotient_14 : decode cX9_quotient 14 = .ok (.ireturn, 1) := by decide +kernel
theorem dX9_seatOf_0 : decode cX9_seatOf 0 = .ok (.iload_n 1, 1) := by decide +kernel
theorem dX9_seatOf_1 : decode cX9_seatOf 1 = .ok (.aload_n 0, 1) := by decide +kernel
theorem dX9_seatOf_2 : decode cX9_seatOf 2 = .ok (.getfield 10, 3) := by decide +kernel
theorem dX9_seatOf_5 : decode cX9_seatOf 5 = .ok (.invokevirtual 46, 3) := by decide +kernel
theorem dX9_seatOf_8 : decode cX9_seatOf 8 = .ok (.invokestatic 111, 3) := by decide +kernel
theorem dX9_seatOf_11 : decode cX9_seatOf 11 = .ok (.aload_n 0, 1) := by decide +kernel
theorem dX9_seatOf_12 : decode cX9_seatOf 12 = .ok (.getfield 10, 3) := by decide +kernel
theorem dX9_seatOf_15 : decode cX9_seatOf 15 = .ok (.iload_n 1, 1) := by decide +kernel
theorem dX9_seatOf_16 : decode cX9_seatOf 16 = .ok (.invokevirtual 332, 3) := by decide +kernel
theorem dX9_seatOf_19 : decode cX9_seatOf 19 = .ok (.checkcast 54, 3) := by decide +kernel
theorem dX9_seatOf_22 : decode cX9_seatOf 22 = .ok (.areturn, 1) := by decide +kernel
theorem dX9_bodyOf_0 : decode cX9_bodyOf 0 = .ok (.iload_n 1, 1) := by decide +kernel
theorem dX9_bodyOf_1 : decode cX9_bodyOf 1 = .ok (.aload_n 0, 1) := by decide +kernel
theorem dX9_bodyOf_2 : decode cX9_bodyOf 2 = .ok (.getfield 16, 3) := by decide +kernel
theorem dX9_bodyOf_5 : decode cX9_bodyOf 5 = .ok (.invokevirtual 46, 3) := by decide +kernel
theorem dX9_bodyOf_8 : decode cX9_bodyOf 8 = .ok (.invokestatic 111, 3) := by decide +kernel
theorem dX9_bodyOf_11 : decode cX9_bodyOf 11 = .ok (.aload_n 0, 1) := by decide +kernel
theorem dX9_bodyOf_12 : decode cX9_bodyOf 12 = .ok (.getfield 16, 3) := by decide +kernel
theorem dX9_bodyOf_15 : decode cX9_bodyOf 15 = .ok (.iload_n 1, 1) := by decide +kernel
theorem dX9_bodyOf_16 : decode cX9_bodyOf 16 = .ok (.invokevirtual 332, 3) := by decide +kernel
theorem dX9_bodyOf_19 : decode cX9_bodyOf 19 = .ok (.checkcast 25, 3) := by decide +kernel
theorem dX9_bodyOf_22 : decode cX9_bodyOf 22 = .ok (.areturn, 1) := by decide +kernel
theorem dX9_clothOf_0 : decode cX9_clothOf 0 = .ok (.iload_n 1, 1) := by decide +kernel
theorem dX9_clothOf_1 : decode cX9_clothOf 1 = .ok (.aload_n 0, 1) := by decide +kernel
theorem dX9_clothOf_2 : decode cX9_clothOf 2 = .ok (.getfield 19, 3) := by decide +kernel
theorem dX9_clothOf_5 : decode cX9_clothOf 5 = .ok (.invokevirtual 46, 3) := by decide +kernel
theorem dX9_clothOf_8 : decode cX9_clothOf 8 = .ok (.invokestatic 111, 3) := by decide +kernel
theorem dX9_clothOf_11 : decode cX9_clothOf 11 = .ok (.aload_n 0, 1) := by decide +kernel
theorem dX9_clothOf_12 : decode cX9_clothOf 12 = .ok (.getfield 19, 3) := by decide +kernel
theorem dX9_clothOf_15 : decode cX9_clothOf 15 = .ok (.iload_n 1, 1) := by decide +kernel
theorem dX9_clothOf_16 : decode cX9_clothOf 16 = .ok (.invokevirtual 332, 3) := by decide +kernel
theorem dX9_clothOf_19 : decode cX9_clothOf 19 = .ok (.checkcast 158, 3) := by decide +kernel
theorem dX9_clothOf_22 : decode cX9_clothOf 22 = .ok (.areturn, 1) := by decide +kernel
theorem dX9_landOf_0 : decode cX9_landOf 0 = .ok (.iload_n 1, 1) := by decide +kernel
theorem dX9_landOf_1 : decode cX9_landOf 1 = .ok (.aload_n 0, 1) := by decide +kernel
theorem dX9_landOf_2 : decode cX9_landOf 2 = .ok (.getfield 22, 3) := by decide +kernel
theorem dX9_landOf_5 : decode cX9_landOf 5 = .ok (.invokevirtual 46, 3) := by decide +kernel
theorem dX9_landOf_8 : decode cX9_landOf 8 = .ok (.invokestatic 111, 3) := by decide +kernel
theorem dX9_landOf_11 : decode cX9_landOf 11 = .ok (.aload_n 0, 1) := by decide +kernel
theorem dX9_landOf_12 : decode cX9_landOf 12 = .ok (.getfield 22, 3) := by decide +kernel
theorem dX9_landOf_15 : decode cX9_landOf 15 = .ok (.iload_n 1, 1) := by decide +kernel
theorem dX9_landOf_16 : decode cX9_landOf 16 = .ok (.invokevirtual 332, 3) := by decide +kernel
theorem dX9_landOf_19 : decode cX9_landOf 19 = .ok (.checkcast 35, 3) := by decide +kernel
theorem dX9_landOf_22 : decode cX9_landOf 22 = .ok (.areturn, 1) := by decide +kernel
theorem dX9_layerOf_0 : decode cX9_layerOf 0 = .ok (.iload_n 1, 1) := by decide +kernel
theorem dX9_layerOf_1 : decode cX9_layerOf 1 = .ok (.aload_n 0, 1) := by decide +kernel
theorem dX9_layerOf_2 : decode cX9_layerOf 2 = .ok (.getfield 130, 3) := by decide +kernel
theorem dX9_layerOf_5 : decode cX9_layerOf 5 = .ok (.invokevirtual 302, 3) := by decide +kernel
theorem dX9_layerOf_8 : decode cX9_layerOf 8 = .ok (.invokestatic 194, 3) := by decide +kernel
theorem dX9_layerOf_11 : decode cX9_layerOf 11 = .ok (.aload_n 0, 1) := by decide +kernel
theorem dX9_layerOf_12 : decode cX9_layerOf 12 = .ok (.getfield 130, 3) := by decide +kernel
theorem dX9_layerOf_15 : decode cX9_layerOf 15 = .ok (.getfield 371, 3) := by decide +kernel
theorem dX9_layerOf_18 : decode cX9_layerOf 18 = .ok (.iload_n 1, 1) := by decide +kernel
theorem dX9_layerOf_19 : decode cX9_layerOf 19 = .ok (.invokevirtual 332, 3) := by decide +kernel
theorem dX9_layerOf_22 : decode cX9_layerOf 22 = .ok (.checkcast 134, 3) := by decide +kernel
theorem dX9_layerOf_25 : decode cX9_layerOf 25 = .ok (.areturn, 1) := by decide +kernel
theorem dX9_needIndex_0 : decode cX9_needIndex 0 = .ok (.iload_n 0, 1) := by decide +kernel
theorem dX9_needIndex_1 : decode cX9_needIndex 1 = .ok (.ifCond .lt 8, 3) := by decide +kernel
theorem dX9_needIndex_4 : decode cX9_needIndex 4 = .ok (.iload_n 0, 1) := by decide +kernel
theorem dX9_needIndex_5 : decode cX9_needIndex 5 = .ok (.iload_n 1, 1) := by decide +kernel
theorem dX9_needIndex_6 : decode cX9_needIndex 6 = .ok (.if_icmp .lt 14, 3) := by decide +kernel
theorem dX9_needIndex_9 : decode cX9_needIndex 9 = .ok (.new 374, 3) := by decide +kernel
theorem dX9_needIndex_12 : decode cX9_needIndex 12 = .ok (.dup, 1) := by decide +kernel
theorem dX9_needIndex_13 : decode cX9_needIndex 13 = .ok (.ldc_w 376, 3) := by decide +kernel
theorem dX9_needIndex_16 : decode cX9_needIndex 16 = .ok (.invokespecial 378, 3) := by decide +kernel
theorem dX9_needIndex_19 : decode cX9_needIndex 19 = .ok (.athrow, 1) := by decide +kernel
theorem dX9_needIndex_20 : decode cX9_needIndex 20 = .ok (.return_, 1) := by decide +kernel
theorem dX9_needElement_0 : decode cX9_needElement 0 = .ok (.iload_n 0, 1) := by decide +kernel
theorem dX9_needElement_1 : decode cX9_needElement 1 = .ok (.ifCond .lt 8, 3) := by decide +kernel
theorem dX9_needElement_4 : decode cX9_needElement 4 = .ok (.iload_n 0, 1) := by decide +kernel
theorem dX9_needElement_5 : decode cX9_needElement 5 = .ok (.iload_n 1, 1) := by decide +kernel
theorem dX9_needElement_6 : decode cX9_needElement 6 = .ok (.if_icmp .lt 14, 3) := by decide +kernel
theorem dX9_needElement_9 : decode cX9_needElement 9 = .ok (.new 166, 3) := by decide +kernel
theorem dX9_needElement_12 : decode cX9_needElement 12 = .ok (.dup, 1) := by decide +kernel
theorem dX9_needElement_13 : decode cX9_needElement 13 = .ok (.ldc_w 379, 3) := by decide +kernel
theorem dX9_needElement_16 : decode cX9_needElement 16 = .ok (.invokespecial 170, 3) := by decide +kernel
theorem dX9_needElement_19 : decode cX9_needElement 19 = .ok (.athrow, 1) := by decide +kernel
theorem dX9_needElement_20 : decode cX9_needElement 20 = .ok (.return_, 1) := by decide +kernel
theorem dX9_needCell_0 : decode cX9_needCell 0 = .ok (.iload_n 1, 1) := by decide +kernel
theorem dX9_needCell_1 : decode cX9_needCell 1 = .ok (.aload_n 0, 1) := by decide +kernel
theorem dX9_needCell_2 : decode cX9_needCell 2 = .ok (.getfield 66, 3) := by decide +kernel
theorem dX9_needCell_5 : decode cX9_needCell 5 = .ok (.getfield 105, 3) := by decide +kernel
theorem dX9_needCell_8 : decode cX9_needCell 8 = .ok (.aload_n 0, 1) := by decide +kernel
theorem dX9_needCell_9 : decode cX9_needCell 9 = .ok (.getfield 66, 3) := by decide +kernel
theorem dX9_needCell_12 : decode cX9_needCell 12 = .ok (.getfield 108, 3) := by decide +kernel
theorem dX9_needCell_15 : decode cX9_needCell 15 = .ok (.invokestatic 230, 3) := by decide +kernel
theorem dX9_needCell_18 : decode cX9_needCell 18 = .ok (.return_, 1) := by decide +kernel
theorem dX9_needCellIn_0 : decode cX9_needCellIn 0 = .ok (.iload_n 0, 1) := by decide +kernel
theorem dX9_needCellIn_1 : decode cX9_needCellIn 1 = .ok (.bipush 10, 2) := by decide +kernel
theorem dX9_needCellIn_3 : decode cX9_needCellIn 3 = .ok (.idiv, 1) := by decide +kernel
theorem dX9_needCellIn_4 : decode cX9_needCellIn 4 = .ok (.iload_n 1, 1) := by decide +kernel
theorem dX9_needCellIn_5 : decode cX9_needCellIn 5 = .ok (.invokestatic 111, 3) := by decide +kernel
theorem dX9_needCellIn_8 : decode cX9_needCellIn 8 = .ok (.iload_n 0, 1) := by decide +kernel
theorem dX9_needCellIn_9 : decode cX9_needCellIn 9 = .ok (.bipush 10, 2) := by decide +kernel
theorem dX9_needCellIn_11 : decode cX9_needCellIn 11 = .ok (.irem, 1) := by decide +kernel
theorem dX9_needCellIn_12 : decode cX9_needCellIn 12 = .ok (.iload_n 2, 1) := by decide +kernel
theorem dX9_needCellIn_13 : decode cX9_needCellIn 13 = .ok (.invokestatic 111, 3) := by decide +kernel
theorem dX9_needCellIn_16 : decode cX9_needCellIn 16 = .ok (.return_, 1) := by decide +kernel
theorem dX9_needRange_0 : decode cX9_needRange 0 = .ok (.iload_n 0, 1) := by decide +kernel
theorem dX9_needRange_1 : decode cX9_needRange 1 = .ok (.iload_n 1, 1) := by decide +kernel
theorem dX9_needRange_2 : decode cX9_needRange 2 = .ok (.if_icmp .lt 8, 3) := by decide +kernel
theorem dX9_needRange_5 : decode cX9_needRange 5 = .ok (.iload_n 0, 1) := by decide +kernel
theorem dX9_needRange_6 : decode cX9_needRange 6 = .ok (.iload_n 2, 1) := by decide +kernel
theorem dX9_needRange_7 : decode cX9_needRange 7 = .ok (.if_icmp .le 14, 3) := by decide +kernel
theorem dX9_needRange_10 : decode cX9_needRange 10 = .ok (.new 381, 3) := by decide +kernel
theorem dX9_needRange_13 : decode cX9_needRange 13 = .ok (.dup, 1) := by decide +kernel
theorem dX9_needRange_14 : decode cX9_needRange 14 = .ok (.ldc_w 383, 3) := by decide +kernel
theorem dX9_needRange_17 : decode cX9_needRange 17 = .ok (.invokespecial 385, 3) := by decide +kernel
theorem dX9_needRange_20 : decode cX9_needRange 20 = .ok (.athrow, 1) := by decide +kernel
theorem dX9_needRange_21 : decode cX9_needRange 21 = .ok (.return_, 1) := by decide +kernel
theorem dX9_needKind_0 : decode cX9_needKind 0 = .ok (.iload_n 0, 1) := by decide +kernel
theorem dX9_needKind_1 : decode cX9_needKind 1 = .ok (.bipush 104, 2) := by decide +kernel
theorem dX9_needKind_3 : decode cX9_needKind 3 = .ok (.if_icmp .eq 26, 3) := by decide +kernel
theorem dX9_needKind_6 : decode cX9_needKind 6 = .ok (.iload_n 0, 1) := by decide +kernel
theorem dX9_needKind_7 : decode cX9_needKind 7 = .ok (.bipush 102, 2) := by decide +kernel
theorem dX9_needKind_9 : decode cX9_needKind 9 = .ok (.if_icmp .eq 20, 3) := by decide +kernel
theorem dX9_needKind_12 : decode cX9_needKind 12 = .ok (.iload_n 0, 1) := by decide +kernel
theorem dX9_needKind_13 : decode cX9_needKind 13 = .ok (.bipush 100, 2) := by decide +kernel
theorem dX9_needKind_15 : decode cX9_needKind 15 = .ok (.if_icmp .eq 14, 3) := by decide +kernel
theorem dX9_needKind_18 : decode cX9_needKind 18 = .ok (.new 381, 3) := by decide +kernel
theorem dX9_needKind_21 : decode cX9_needKind 21 = .ok (.dup, 1) := by decide +kernel
theorem dX9_needKind_22 : decode cX9_needKind 22 = .ok (.ldc_w 386, 3) := by decide +kernel
theorem dX9_needKind_25 : decode cX9_needKind 25 = .ok (.invokespecial 385, 3) := by decide +kernel
theorem dX9_needKind_28 : decode cX9_needKind 28 = .ok (.athrow, 1) := by decide +kernel
theorem dX9_needKind_29 : decode cX9_needKind 29 = .ok (.return_, 1) := by decide +kernel
theorem dX9_needRoom_0 : decode cX9_needRoom 0 = .ok (.iload_n 0, 1) := by decide +kernel
theorem dX9_needRoom_1 : decode cX9_needRoom 1 = .ok (.iload_n 1, 1) := by decide +kernel
theorem dX9_needRoom_2 : decode cX9_needRoom 2 = .ok (.if_icmp .lt 14, 3) := by decide +kernel
theorem dX9_needRoom_5 : decode cX9_needRoom 5 = .ok (.new 388, 3) := by decide +kernel
theorem dX9_needRoom_8 : decode cX9_needRoom 8 = .ok (.dup, 1) := by decide +kernel
theorem dX9_needRoom_9 : decode cX9_needRoom 9 = .ok (.ldc_w 390, 3) := by decide +kernel
theorem dX9_needRoom_12 : decode cX9_needRoom 12 = .ok (.invokespecial 392, 3) := by decide +kernel
theorem dX9_needRoom_15 : decode cX9_needRoom 15 = .ok (.athrow, 1) := by decide +kernel
theorem dX9_needRoom_16 : decode cX9_needRoom 16 = .ok (.return_, 1) := by decide +kernel
theorem dX9_needNext_0 : decode cX9_needNext 0 = .ok (.aload_n 0, 1) := by decide +kernel
theorem dX9_needNext_1 : decode cX9_needNext 1 = .ok (.getfield 76, 3) := by decide +kernel
theorem dX9_needNext_4 : decode cX9_needNext 4 = .ok (.iload_n 1, 1) := by decide +kernel
theorem dX9_needNext_5 : decode cX9_needNext 5 = .ok (.invokevirtual 393, 3) := by decide +kernel
theorem dX9_needNext_8 : decode cX9_needNext 8 = .ok (.ifCond .ne 14, 3) := by decide +kernel
theorem dX9_needNext_11 : decode cX9_needNext 11 = .ok (.new 180, 3) := by decide +kernel
theorem dX9_needNext_14 : decode cX9_needNext 14 = .ok (.dup, 1) := by decide +kernel
theorem dX9_needNext_15 : decode cX9_needNext 15 = .ok (.ldc_w 397, 3) := by decide +kernel
theorem dX9_needNext_18 : decode cX9_needNext 18 = .ok (.invokespecial 184, 3) := by decide +kernel
theorem dX9_needNext_21 : decode cX9_needNext 21 = .ok (.athrow, 1) := by decide +kernel
theorem dX9_needNext_22 : decode cX9_needNext 22 = .ok (.return_, 1) := by decide +kernel
theorem dX9_needInWork_0 : decode cX9_needInWork 0 = .ok (.aload_n 0, 1) := by decide +kernel
theorem dX9_needInWork_1 : decode cX9_needInWork 1 = .ok (.getfield 76, 3) := by decide +kernel
theorem dX9_needInWork_4 : decode cX9_needInWork 4 = .ok (.invokevirtual 399, 3) := by decide +kernel
theorem dX9_needInWork_7 : decode cX9_needInWork 7 = .ok (.iload_n 1, 1) := by decide +kernel
theorem dX9_needInWork_8 : decode cX9_needInWork 8 = .ok (.if_icmp .ne 13, 3) := by decide +kernel
theorem dX9_needInWork_11 : decode cX9_needInWork 11 = .ok (.aload_n 0, 1) := by decide +kernel
theorem dX9_needInWork_12 : decode cX9_needInWork 12 = .ok (.getfield 76, 3) := by decide +kernel
theorem dX9_needInWork_15 : decode cX9_needInWork 15 = .ok (.invokevirtual 176, 3) := by decide +kernel
theorem dX9_needInWork_18 : decode cX9_needInWork 18 = .ok (.ifCond .eq 14, 3) := by decide +kernel
theorem dX9_needInWork_21 : decode cX9_needInWork 21 = .ok (.new 180, 3) := by decide +kernel
theorem dX9_needInWork_24 : decode cX9_needInWork 24 = .ok (.dup, 1) := by decide +kernel
theorem dX9_needInWork_25 : decode cX9_needInWork 25 = .ok (.ldc_w 402, 3) := by decide +kernel
theorem dX9_needInWork_28 : decode cX9_needInWork 28 = .ok (.invokespecial 184, 3) := by decide +kernel
theorem dX9_needInWork_31 : decode cX9_needInWork 31 = .ok (.athrow, 1) := by decide +kernel
theorem dX9_needInWork_32 : decode cX9_needInWork 32 = .ok (.return_, 1) := by decide +kernel
theorem dX9_needSprings_0 : decode cX9_needSprings 0 = .ok (.aload_n 0, 1) := by decide +kernel
theorem dX9_needSprings_1 : decode cX9_needSprings 1 = .ok (.invokevirtual 404, 3) := by decide +kernel
theorem dX9_needSprings_4 : decode cX9_needSprings 4 = .ok (.ifCond .ne 14, 3) := by decide +kernel
theorem dX9_needSprings_7 : decode cX9_needSprings 7 = .ok (.new 180, 3) := by decide +kernel
theorem dX9_needSprings_10 : decode cX9_needSprings 10 = .ok (.dup, 1) := by decide +kernel
theorem dX9_needSprings_11 : decode cX9_needSprings 11 = .ok (.ldc_w 407, 3) := by decide +kernel
theorem dX9_needSprings_14 : decode cX9_needSprings 14 = .ok (.invokespecial 184, 3) := by decide +kernel
theorem dX9_needSprings_17 : decode cX9_needSprings 17 = .ok (.athrow, 1) := by decide +kernel
theorem dX9_needSprings_18 : decode cX9_needSprings 18 = .ok (.return_, 1) := by decide +kernel
theorem dX9_needClosed_0 : decode cX9_needClosed 0 = .ok (.aload_n 0, 1) := by decide +kernel
theorem dX9_needClosed_1 : decode cX9_needClosed 1 = .ok (.invokevirtual 204, 3) := by decide +kernel
theorem dX9_needClosed_4 : decode cX9_needClosed 4 = .ok (.ifCond .ne 14, 3) := by decide +kernel
theorem dX9_needClosed_7 : decode cX9_needClosed 7 = .ok (.new 180, 3) := by decide +kernel
theorem dX9_needClosed_10 : decode cX9_needClosed 10 = .ok (.dup, 1) := by decide +kernel
theorem dX9_needClosed_11 : decode cX9_needClosed 11 = .ok (.ldc_w 409, 3) := by decide +kernel
theorem dX9_needClosed_14 : decode cX9_needClosed 14 = .ok (.invokespecial 184, 3) := by decide +kernel
theorem dX9_needClosed_17 : decode cX9_needClosed 17 = .ok (.athrow, 1) := by decide +kernel
theorem dX9_needClosed_18 : decode cX9_needClosed 18 = .ok (.return_, 1) := by decide +kernel
theorem dX9_needHoursLeft_0 : decode cX9_needHoursLeft 0 = .ok (.aload_n 0, 1) := by decide +kernel
theorem dX9_needHoursLeft_1 : decode cX9_needHoursLeft 1 = .ok (.invokestatic 285, 3) := by decide +kernel
theorem dX9_needHoursLeft_4 : decode cX9_needHoursLeft 4 = .ok (.aload_n 0, 1) := by decide +kernel
theorem dX9_needHoursLeft_5 : decode cX9_needHoursLeft 5 = .ok (.getfield 267, 3) := by decide +kernel
theorem dX9_needHoursLeft_8 : decode cX9_needHoursLeft 8 = .ok (.getfield 288, 3) := by decide +kernel
theorem dX9_needHoursLeft_11 : decode cX9_needHoursLeft 11 = .ok (.iload_n 1, 1) := by decide +kernel
theorem dX9_needHoursLeft_12 : decode cX9_needHoursLeft 12 = .ok (.iadd, 1) := by decide +kernel
theorem dX9_needHoursLeft_13 : decode cX9_needHoursLeft 13 = .ok (.ldc_w 411, 3) := by decide +kernel
theorem dX9_needHoursLeft_16 : decode cX9_needHoursLeft 16 = .ok (.if_icmp .le 14, 3) := by decide +kernel
theorem dX9_needHoursLeft_19 : decode cX9_needHoursLeft 19 = .ok (.new 180, 3) := by decide +kernel
theorem dX9_needHoursLeft_22 : decode cX9_needHoursLeft 22 = .ok (.dup, 1) := by decide +kernel
theorem dX9_needHoursLeft_23 : decode cX9_needHoursLeft 23 = .ok (.ldc_w 412, 3) := by decide +kernel
theorem dX9_needHoursLeft_26 : decode cX9_needHoursLeft 26 = .ok (.invokespecial 184, 3) := by decide +kernel
theorem dX9_needHoursLeft_29 : decode cX9_needHoursLeft 29 = .ok (.athrow, 1) := by decide +kernel
theorem dX9_needHoursLeft_30 : decode cX9_needHoursLeft 30 = .ok (.return_, 1) := by decide +kernel
theorem dX10_init_0 : decode cX10_init 0 = .ok (.aload_n 0, 1) := by decide +kernel
theorem dX10_init_1 : decode cX10_init 1 = .ok (.invokespecial 1, 3) := by decide +kernel
theorem dX10_init_4 : decode cX10_init 4 = .ok (.aload_n 0, 1) := by decide +kernel
theorem dX10_init_5 : decode cX10_init 5 = .ok (.iconst 4, 1) := by decide +kernel
theorem dX10_init_6 : decode cX10_init 6 = .ok (.newarray .int, 2) := by decide +kernel
theorem dX10_init_8 : decode cX10_init 8 = .ok (.putfield 9, 3) := by decide +kernel
theorem dX10_init_11 : decode cX10_init 11 = .ok (.aload_n 0, 1) := by decide +kernel
theorem dX10_init_12 : decode cX10_init 12 = .ok (.iconst 4, 1) := by decide +kernel
theorem dX10_init_13 : decode cX10_init 13 = .ok (.newarray .int, 2) := by decide +kernel
theorem dX10_init_15 : decode cX10_init 15 = .ok (.putfield 13, 3) := by decide +kernel
theorem dX10_init_18 : decode cX10_init 18 = .ok (.aload_n 0, 1) := by decide +kernel
theorem dX10_init_19 : decode cX10_init 19 = .ok (.iconst 4, 1) := by decide +kernel
theorem dX10_init_20 : decode cX10_init 20 = .ok (.newarray .int, 2) := by decide +kernel
theorem dX10_init_22 : decode cX10_init 22 = .ok (.putfield 16, 3) := by decide +kernel
theorem dX10_init_25 : decode cX10_init 25 = .ok (.aload_n 0, 1) := by decide +kernel
theorem dX10_init_26 : decode cX10_init 26 = .ok (.iconst 4, 1) := by decide +kernel
theorem dX10_init_27 : decode cX10_init 27 = .ok (.bipush 9, 2) := by decide +kernel
theorem dX10_init_29 : decode cX10_init 29 = .ok (.multianewarray 19 2, 4) := by decide +kernel
theorem dX10_init_33 : decode cX10_init 33 = .ok (.putfield 21, 3) := by decide +kernel
theorem dX10_init_36 : decode cX10_init 36 = .ok (.aload_n 0, 1) := by decide +kernel
theorem dX10_init_37 : decode cX10_init 37 = .ok (.iconst 4, 1) := by decide +kernel
theorem dX10_init_38 : decode cX10_init 38 = .ok (.bipush 9, 2) := by decide +kernel
theorem dX10_init_40 : decode cX10_init 40 = .ok (.multianewarray 24 2, 4) := by decide +kernel
theorem dX10_init_44 : decode cX10_init 44 = .ok (.putfield 26, 3) := by decide +kernel
theorem dX10_init_47 : decode cX10_init 47 = .ok (.aload_n 0, 1) := by decide +kernel
theorem dX10_init_48 : decode cX10_init 48 = .ok (.iconst 4, 1) := by decide +kernel
theorem dX10_init_49 : decode cX10_init 49 = .ok (.newarray .int, 2) := by decide +kernel
theorem dX10_init_51 : decode cX10_init 51 = .ok (.putfield 29, 3) := by decide +kernel
theorem dX10_init_54 : decode cX10_init 54 = .ok (.aload_n 0, 1) := by decide +kernel
theorem dX10_init_55 : decode cX10_init 55 = .ok (.iconst 4, 1) := by decide +kernel
theorem dX10_init_56 : decode cX10_init 56 = .ok (.bipush 6, 2) := by decide +kernel
theorem dX10_init_58 : decode cX10_init 58 = .ok (.bipush 6, 2) := by decide +kernel
theorem dX10_init_60 : decode cX10_init 60 = .ok (.multianewarray 32 3, 4) := by decide +kernel
theorem dX10_init_64 : decode cX10_init 64 = .ok (.putfield 34, 3) := by decide +kernel
theorem dX10_init_67 : decode cX10_init 67 = .ok (.aload_n 0, 1) := by decide +kernel
theorem dX10_init_68 : decode cX10_init 68 = .ok (.iconst 4, 1) := by decide +kernel
theorem dX10_init_69 : decode cX10_init 69 = .ok (.bipush 6, 2) := by decide +kernel
theorem dX10_init_71 : decode cX10_init 71 = .ok (.bipush 6, 2) := by decide +kernel
theorem dX10_init_73 : decode cX10_init 73 = .ok (.multianewarray 32 3, 4) := by decide +kernel
theorem dX10_init_77 : decode cX10_init 77 = .ok (.putfield 37, 3) := by decide +kernel
theorem dX10_init_80 : decode cX10_init 80 = .ok (.aload_n 0, 1) := by decide +kernel
theorem dX10_init_81 : decode cX10_init 81 = .ok (.iconst 4, 1) := by decide +kernel
theorem dX10_init_82 : decode cX10_init 82 = .ok (.bipush 6, 2) := by decide +kernel
theorem dX10_init_84 : decode cX10_init 84 = .ok (.multianewarray 40 2, 4) := by decide +kernel
theorem dX10_init_88 : decode cX10_init 88 = .ok (.putfield 42, 3) := by decide +kernel
theorem dX10_init_91 : decode cX10_init 91 = .ok (.aload_n 0, 1) := by decide +kernel
theorem dX10_init_92 : decode cX10_init 92 = .ok (.iconst 4, 1) := by decide +kernel
theorem dX10_init_93 : decode cX10_init 93 = .ok (.bipush 6, 2) := by decide +kernel
theorem dX10_init_95 : decode cX10_init 95 = .ok (.multianewarray 40 2, 4) := by decide +kernel
theorem dX10_init_99 : decode cX10_init 99 = .ok (.putfield 45, 3) := by decide +kernel
theorem dX10_init_102 : decode cX10_init 102 = .ok (.aload_n 0, 1) := by decide +kernel
theorem dX10_init_103 : decode cX10_init 103 = .ok (.iconst 4, 1) := by decide +kernel
theorem dX10_init_104 : decode cX10_init 104 = .ok (.newarray .int, 2) := by decide +kernel
theorem dX10_init_106 : decode cX10_init 106 = .ok (.putfield 48, 3) := by decide +kernel
theorem dX10_init_109 : decode cX10_init 109 = .ok (.aload_n 0, 1) := by decide +kernel
theorem dX10_init_110 : decode cX10_init 110 = .ok (.iconst 4, 1) := by decide +kernel
theorem dX10_init_111 : decode cX10_init 111 = .ok (.iconst 4, 1) := by decide +kernel
theorem dX10_init_112 : decode cX10_init 112 = .ok (.multianewarray 19 2, 4) := by decide +kernel
theorem dX10_init_116 : decode cX10_init 116 = .ok (.putfield 51, 3) := by decide +kernel
theorem dX10_init_119 : decode cX10_init 119 = .ok (.aload_n 0, 1) := by decide +kernel
theorem dX10_init_120 : decode cX10_init 120 = .ok (.iconst 4, 1) := by decide +kernel
theorem dX10_init_121 : decode cX10_init 121 = .ok (.iconst 4, 1) := by decide +kernel
theorem dX10_init_122 : decode cX10_init 122 = .ok (.multianewarray 40 2, 4) := by decide +kernel
theorem dX10_init_126 : decode cX10_init 126 = .ok (.putfield 54, 3) := by decide +kernel
theorem dX10_init_129 : decode cX10_init 129 = .ok (.aload_n 0, 1) := by decide +kernel
theorem dX10_init_130 : decode cX10_init 130 = .ok (.iconst 4, 1) := by decide +kernel
theorem dX10_init_131 : decode cX10_init 131 = .ok (.iconst 4, 1) := by decide +kernel
theorem dX10_init_132 : decode cX10_init 132 = .ok (.multianewarray 40 2, 4) := by decide +kernel
theorem dX10_init_136 : decode cX10_init 136 = .ok (.putfield 57, 3) := by decide +kernel
theorem dX10_init_139 : decode cX10_init 139 = .ok (.aload_n 0, 1) := by decide +kernel
theorem dX10_init_140 : decode cX10_init 140 = .ok (.iconst 4, 1) := by decide +kernel
theorem dX10_init_141 : decode cX10_init 141 = .ok (.iconst 4, 1) := by decide +kernel
theorem dX10_init_142 : decode cX10_init 142 = .ok (.multianewarray 60 2, 4) := by decide +kernel
theorem dX10_init_146 : decode cX10_init 146 = .ok (.putfield 62, 3) := by decide +kernel
theorem dX10_init_149 : decode cX10_init 149 = .ok (.aload_n 0, 1) := by decide +kernel
theorem dX10_init_150 : decode cX10_init 150 = .ok (.iconst 4, 1) := by decide +kernel
theorem dX10_init_151 : decode cX10_init 151 = .ok (.iconst 4, 1) := by decide +kernel
theorem dX10_init_152 : decode cX10_init 152 = .ok (.multianewarray 40 2, 4) := by decide +kernel
theorem dX10_init_156 : decode cX10_init 156 = .ok (.putfield 65, 3) := by decide +kernel
theorem dX10_init_159 : decode cX10_init 159 = .ok (.aload_n 0, 1) := by decide +kernel
theorem dX10_init_160 : decode cX10_init 160 = .ok (.iconst 4, 1) := by decide +kernel
theorem dX10_init_161 : decode cX10_init 161 = .ok (.bipush 6, 2) := by decide +kernel
theorem dX10_init_163 : decode cX10_init 163 = .ok (.bipush 6, 2) := by decide +kernel
theorem dX10_init_165 : decode cX10_init 165 = .ok (.multianewarray 32 3, 4) := by decide +kernel
theorem dX10_init_169 : decode cX10_init 169 = .ok (.putfield 68, 3) := by decide +kernel
theorem dX10_init_172 : decode cX10_init 172 = .ok (.aload_n 0, 1) := by decide +kernel
theorem dX10_init_173 : decode cX10_init 173 = .ok (.iconst 4, 1) := by decide +kernel
theorem dX10_init_174 : decode cX10_init 174 = .ok (.bipush 6, 2) := by decide +kernel
theorem dX10_init_176 : decode cX10_init 176 = .ok (.multianewarray 40 2, 4) := by decide +kernel
theorem dX10_init_180 : decode cX10_init 180 = .ok (.putfield 71, 3) := by decide +kernel
theorem dX10_init_183 : decode cX10_init 183 = .ok (.aload_n 0, 1) := by decide +kernel
theorem dX10_init_184 : decode cX10_init 184 = .ok (.iconst 4, 1) := by decide +kernel
theorem dX10_init_185 : decode cX10_init 185 = .ok (.newarray .int, 2) := by decide +kernel
theorem dX10_init_187 : decode cX10_init 187 = .ok (.putfield 74, 3) := by decide +kernel
theorem dX10_init_190 : decode cX10_init 190 = .ok (.aload_n 0, 1) := by decide +kernel
theorem dX10_init_191 : decode cX10_init 191 = .ok (.iconst 4, 1) := by decide +kernel
theorem dX10_init_192 : decode cX10_init 192 = .ok (.newarray .int, 2) := by decide +kernel
theorem dX10_init_194 : decode cX10_init 194 = .ok (.putfield 77, 3) := by decide +kernel
theorem dX10_init_197 : decode cX10_init 197 = .ok (.aload_n 0, 1) := by decide +kernel
theorem dX10_init_198 : decode cX10_init 198 = .ok (.iconst 4, 1) := by decide +kernel
theorem dX10_init_199 : decode cX10_init 199 = .ok (.newarray .int, 2) := by decide +kernel
theorem dX10_init_201 : decode cX10_init 201 = .ok (.putfield 80, 3) := by decide +kernel
theorem dX10_init_204 : decode cX10_init 204 = .ok (.aload_n 0, 1) := by decide +kernel
theorem dX10_init_205 : decode cX10_init 205 = .ok (.iconst 4, 1) := by decide +kernel
theorem dX10_init_206 : decode cX10_init 206 = .ok (.newarray .int, 2) := by decide +kernel
theorem dX10_init_208 : decode cX10_init 208 = .ok (.putfield 83, 3) := by decide +kernel
theorem dX10_init_211 : decode cX10_init 211 = .ok (.aload_n 0, 1) := by decide +kernel
theorem dX10_init_212 : decode cX10_init 212 = .ok (.iconst 3, 1) := by decide +kernel
theorem dX10_init_213 : decode cX10_init 213 = .ok (.bipush 6, 2) := by decide +kernel
theorem dX10_init_215 : decode cX10_init 215 = .ok (.bipush 6, 2) := by decide +kernel
theorem dX10_init_217 : decode cX10_init 217 = .ok (.multianewarray 32 3, 4) := by decide +kernel
theorem dX10_init_221 : decode cX10_init 221 = .ok (.putfield 86, 3) := by decide +kernel
theorem dX10_init_224 : decode cX10_init 224 = .ok (.aload_n 0, 1) := by decide +kernel
theorem dX10_init_225 : decode cX10_init 225 = .ok (.iconst 4, 1) := by decide +kernel
theorem dX10_init_226 : decode cX10_init 226 = .ok (.newarray .int, 2) := by decide +kernel
theorem dX10_init_228 : decode cX10_init 228 = .ok (.putfield 89, 3) := by decide +kernel
theorem dX10_init_231 : decode cX10_init 231 = .ok (.aload_n 0, 1) := by decide +kernel
theorem dX10_init_232 : decode cX10_init 232 = .ok (.iconst 4, 1) := by decide +kernel
theorem dX10_init_233 : decode cX10_init 233 = .ok (.newarray .int, 2) := by decide +kernel
theorem dX10_init_235 : decode cX10_init 235 = .ok (.putfield 92, 3) := by decide +kernel
theorem dX10_init_238 : decode cX10_init 238 = .ok (.aload_n 0, 1) := by decide +kernel
theorem dX10_init_239 : decode cX10_init 239 = .ok (.iconst 4, 1) := by decide +kernel
theorem dX10_init_240 : decode cX10_init 240 = .ok (.newarray .int, 2) := by decide +kernel
theorem dX10_init_242 : decode cX10_init 242 = .ok (.putfield 95, 3) := by decide +kernel
theorem dX10_init_245 : decode cX10_init 245 = .ok (.aload_n 0, 1) := by decide +kernel
theorem dX10_init_246 : decode cX10_init 246 = .ok (.iconst 4, 1) := by decide +kernel
theorem dX10_init_247 : decode cX10_init 247 = .ok (.newarray .int, 2) := by decide +kernel
theorem dX10_init_249 : decode cX10_init 249 = .ok (.putfield 98, 3) := by decide +kernel
theorem dX10_init_252 : decode cX10_init 252 = .ok (.aload_n 0, 1) := by decide +kernel
theorem dX10_init_253 : decode cX10_init 253 = .ok (.iconst 4, 1) := by decide +kernel
theorem dX10_init_254 : decode cX10_init 254 = .ok (.bipush 10, 2) := by decide +kernel
theorem dX10_init_256 : decode cX10_init 256 = .ok (.multianewarray 40 2, 4) := by decide +kernel
theorem dX10_init_260 : decode cX10_init 260 = .ok (.putfield 101, 3) := by decide +kernel
theorem dX10_init_263 : decode cX10_init 263 = .ok (.aload_n 0, 1) := by decide +kernel
theorem dX10_init_264 : decode cX10_init 264 = .ok (.iconst 4, 1) := by decide +kernel
theorem dX10_init_265 : decode cX10_init 265 = .ok (.newarray .char, 2) := by decide +kernel
theorem dX10_init_267 : decode cX10_init 267 = .ok (.dup, 1) := by decide +kernel
theorem dX10_init_268 : decode cX10_init 268 = .ok (.iconst 0, 1) := by decide +kernel
theorem dX10_init_269 : decode cX10_init 269 = .ok (.bipush 45, 2) := by decide +kernel
theorem dX10_init_271 : decode cX10_init 271 = .ok (.castore, 1) := by decide +kernel
theorem dX10_init_272 : decode cX10_init 272 = .ok (.dup, 1) := by decide +kernel
theorem dX10_init_273 : decode cX10_init 273 = .ok (.iconst 1, 1) := by decide +kernel
theorem dX10_init_274 : decode cX10_init 274 = .ok (.bipush 45, 2) := by decide +kernel
theorem dX10_init_276 : decode cX10_init 276 = .ok (.castore, 1) := by decide +kernel
theorem dX10_init_277 : decode cX10_init 277 = .ok (.dup, 1) := by decide +kernel
theorem dX10_init_278 : decode cX10_init 278 = .ok (.iconst 2, 1) := by decide +kernel
theorem dX10_init_279 : decode cX10_init 279 = .ok (.bipush 45, 2) := by decide +kernel
theorem dX10_init_281 : decode cX10_init 281 = .ok (.castore, 1) := by decide +kernel
theorem dX10_init_282 : decode cX10_init 282 = .ok (.dup, 1) := by decide +kernel
theorem dX10_init_283 : decode cX10_init 283 = .ok (.iconst 3, 1) := by decide +kernel
theorem dX10_init_284 : decode cX10_init 284 = .ok (.bipush 45, 2) := by decide +kernel
theorem dX10_init_286 : decode cX10_init 286 = .ok (.castore, 1) := by decide +kernel
theorem dX10_init_287 : decode cX10_init 287 = .ok (.putfield 104, 3) := by decide +kernel
theorem dX10_init_290 : decode cX10_init 290 = .ok (.aload_n 0, 1) := by decide +kernel
theorem dX10_init_291 : decode cX10_init 291 = .ok (.iconst 4, 1) := by decide +kernel
theorem dX10_init_292 : decode cX10_init 292 = .ok (.newarray .int, 2) := by decide +kernel
theorem dX10_init_294 : decode cX10_init 294 = .ok (.dup, 1) := by decide +kernel
theorem dX10_init_295 : decode cX10_init 295 = .ok (.iconst 0, 1) := by decide +kernel
theorem dX10_init_296 : decode cX10_init 296 = .ok (.iconst 4, 1) := by decide +kernel
theorem dX10_init_297 : decode cX10_init 297 = .ok (.iastore, 1) := by decide +kernel
theorem dX10_init_298 : decode cX10_init 298 = .ok (.dup, 1) := by decide +kernel
theorem dX10_init_299 : decode cX10_init 299 = .ok (.iconst 1, 1) := by decide +kernel
theorem dX10_init_300 : decode cX10_init 300 = .ok (.iconst 4, 1) := by decide +kernel
theorem dX10_init_301 : decode cX10_init 301 = .ok (.iastore, 1) := by decide +kernel
theorem dX10_init_302 : decode cX10_init 302 = .ok (.dup, 1) := by decide +kernel
theorem dX10_init_303 : decode cX10_init 303 = .ok (.iconst 2, 1) := by decide +kernel
theorem dX10_init_304 : decode cX10_init 304 = .ok (.iconst 4, 1) := by decide +kernel
theorem dX10_init_305 : decode cX10_init 305 = .ok (.iastore, 1) := by decide +kernel
theorem dX10_init_306 : decode cX10_init 306 = .ok (.dup, 1) := by decide +kernel
theorem dX10_init_307 : decode cX10_init 307 = .ok (.iconst 3, 1) := by decide +kernel
theorem dX10_init_308 : decode cX10_init 308 = .ok (.iconst 4, 1) := by decide +kernel
theorem dX10_init_309 : decode cX10_init 309 = .ok (.iastore, 1) := by decide +kernel
theorem dX10_init_310 : decode cX10_init 310 = .ok (.putfield 108, 3) := by decide +kernel
theorem dX10_init_313 : decode cX10_init 313 = .ok (.return_, 1) := by decide +kernel
theorem dX10_thrown_0 : decode cX10_thrown 0 = .ok (.aload_n 0, 1) := by decide +kernel
theorem dX10_thrown_1 : decode cX10_thrown 1 = .ok (.getfield 111, 3) := by decide +kernel
theorem dX10_thrown_4 : decode cX10_thrown 4 = .ok (.ireturn, 1) := by decide +kernel
theorem dX10_isThrown_0 : decode cX10_isThrown 0 = .ok (.aload_n 0, 1) := by decide +kernel
theorem dX10_isThrown_1 : decode cX10_isThrown 1 = .ok (.iload_n 1, 1) := by decide +kernel
theorem dX10_isThrown_2 : decode cX10_isThrown 2 = .ok (.ifCond .eq 7, 3) := by decide +kernel
theorem dX10_isThrown_5 : decode cX10_isThrown 5 = .ok (.iload_n 2, 1) := by decide +kernel
theorem dX10_isThrown_6 : decode cX10_isThrown 6 = .ok (.goto 4, 3) := by decide +kernel
theorem dX10_isThrown_9 : decode cX10_isThrown 9 = .ok (.iconst 0, 1) := by decide +kernel
theorem dX10_isThrown_10 : decode cX10_isThrown 10 = .ok (.putfield 111, 3) := by decide +kernel
theorem dX10_isThrown_13 : decode cX10_isThrown 13 = .ok (.iload_n 1, 1) := by decide +kernel
theorem dX10_isThrown_14 : decode cX10_isThrown 14 = .ok (.ireturn, 1) := by decide +kernel
theorem dX10_isIn_0 : decode cX10_isIn 0 = .ok (.iload_n 0, 1) := by decide +kernel
theorem dX10_isIn_1 : decode cX10_isIn 1 = .ok (.iload_n 1, 1) := by decide +kernel
theorem dX10_isIn_2 : decode cX10_isIn 2 = .ok (.if_icmp .lt 12, 3) := by decide +kernel
theorem dX10_isIn_5 : decode cX10_isIn 5 = .ok (.iload_n 0, 1) := by decide +kernel
theorem dX10_isIn_6 : decode cX10_isIn 6 = .ok (.iload_n 2, 1) := by decide +kernel
theorem dX10_isIn_7 : decode cX10_isIn 7 = .ok (.if_icmp .gt 7, 3) := by decide +kernel
theorem dX10_isIn_10 : decode cX10_isIn 10 = .ok (.iconst 1, 1) := by decide +kernel
theorem dX10_isIn_11 : decode cX10_isIn 11 = .ok (.goto 4, 3) := by decide +kernel
theorem dX10_isIn_14 : decode cX10_isIn 14 = .ok (.iconst 0, 1) := by decide +kernel
theorem dX10_isIn_15 : decode cX10_isIn 15 = .ok (.ireturn, 1) := by decide +kernel
theorem dX10_isNoSeat_0 : decode cX10_isNoSeat 0 = .ok (.iload_n 1, 1) := by decide +kernel
theorem dX10_isNoSeat_1 : decode cX10_isNoSeat 1 = .ok (.iconst 0, 1) := by decide +kernel
theorem dX10_isNoSeat_2 : decode cX10_isNoSeat 2 = .ok (.aload_n 0, 1) := by decide +kernel
theorem dX10_isNoSeat_3 : decode cX10_isNoSeat 3 = .ok (.getfield 115, 3) := by decide +kernel
theorem dX10_isNoSeat_6 : decode cX10_isNoSeat 6 = .ok (.iconst 1, 1) := by decide +kernel
theorem dX10_isNoSeat_7 : decode cX10_isNoSeat 7 = .ok (.isub, 1) := by decide +kernel
theorem dX10_isNoSeat_8 : decode cX10_isNoSeat 8 = .ok (.invokestatic 118, 3) := by decide +kernel
theorem dX10_isNoSeat_11 : decode cX10_isNoSeat 11 = .ok (.ifCond .ne 7, 3) := by decide +kernel
theorem dX10_isNoSeat_14 : decode cX10_isNoSeat 14 = .ok (.iconst 1, 1) := by decide +kernel
theorem dX10_isNoSeat_15 : decode cX10_isNoSeat 15 = .ok (.goto 4, 3) := by decide +kernel
theorem dX10_isNoSeat_18 : decode cX10_isNoSeat 18 = .ok (.iconst 0, 1) := by decide +kernel
theorem dX10_isNoSeat_19 : decode cX10_isNoSeat 19 = .ok (.ireturn, 1) := by decide +kernel
theorem dX10_isNoCell_0 : decode cX10_isNoCell 0 = .ok (.aload_n 0, 1) := by decide +kernel
theorem dX10_isNoCell_1 : decode cX10_isNoCell 1 = .ok (.iload_n 1, 1) := by decide +kernel
theorem dX10_isNoCell_2 : decode cX10_isNoCell 2 = .ok (.invokevirtual 122, 3) := by decide +kernel
theorem dX10_isNoCell_5 : decode cX10_isNoCell 5 = .ok (.ifCond .ne 33, 3) := by decide +kernel
theorem dX10_isNoCell_8 : decode cX10_isNoCell 8 = .ok (.iload_n 2, 1) := by decide +kernel
theorem dX10_isNoCell_9 : decode cX10_isNoCell 9 = .ok (.ifCond .lt 29, 3) := by decide +kernel
theorem dX10_isNoCell_12 : decode cX10_isNoCell 12 = .ok (.iload_n 2, 1) := by decide +kernel
theorem dX10_isNoCell_13 : decode cX10_isNoCell 13 = .ok (.bipush 10, 2) := by decide +kernel
theorem dX10_isNoCell_15 : decode cX10_isNoCell 15 = .ok (.idiv, 1) := by decide +kernel
theorem dX10_isNoCell_16 : decode cX10_isNoCell 16 = .ok (.aload_n 0, 1) := by decide +kernel
theorem dX10_isNoCell_17 : decode cX10_isNoCell 17 = .ok (.getfield 9, 3) := by decide +kernel
theorem dX10_isNoCell_20 : decode cX10_isNoCell 20 = .ok (.iload_n 1, 1) := by decide +kernel
theorem dX10_isNoCell_21 : decode cX10_isNoCell 21 = .ok (.iaload, 1) := by decide +kernel
theorem dX10_isNoCell_22 : decode cX10_isNoCell 22 = .ok (.if_icmp .ge 16, 3) := by decide +kernel
theorem dX10_isNoCell_25 : decode cX10_isNoCell 25 = .ok (.iload_n 2, 1) := by decide +kernel
theorem dX10_isNoCell_26 : decode cX10_isNoCell 26 = .ok (.bipush 10, 2) := by decide +kernel
theorem dX10_isNoCell_28 : decode cX10_isNoCell 28 = .ok (.irem, 1) := by decide +kernel
theorem dX10_isNoCell_29 : decode cX10_isNoCell 29 = .ok (.aload_n 0, 1) := by decide +kernel
theorem dX10_isNoCell_30 : decode cX10_isNoCell 30 = .ok (.getfield 13, 3) := by decide +kernel
theorem dX10_isNoCell_33 : decode cX10_isNoCell 33 = .ok (.iload_n 1, 1) := by decide +kernel
theorem dX10_isNoCell_34 : decode cX10_isNoCell 34 = .ok (.iaload, 1) := by decide +kernel
theorem dX10_isNoCell_35 : decode cX10_isNoCell 35 = .ok (.if_icmp .lt 7, 3) := by decide +kernel
theorem dX10_isNoCell_38 : decode cX10_isNoCell 38 = .ok (.iconst 1, 1) := by decide +kernel
theorem dX10_isNoCell_39 : decode cX10_isNoCell 39 = .ok (.goto 4, 3) := by decide +kernel
theorem dX10_isNoCell_42 : decode cX10_isNoCell 42 = .ok (.iconst 0, 1) := by decide +kernel
theorem dX10_isNoCell_43 : decode cX10_isNoCell 43 = .ok (.ireturn, 1) := by decide +kernel
theorem dX10_seat_0 : decode cX10_seat 0 = .ok (.aload_n 0, 1) := by decide +kernel
theorem dX10_seat_1 : decode cX10_seat 1 = .ok (.iload_n 1, 1) := by decide +kernel
theorem dX10_seat_2 : decode cX10_seat 2 = .ok (.iconst 1, 1) := by decide +kernel
theorem dX10_seat_3 : decode cX10_seat 3 = .ok (.bipush 6, 2) := by decide +kernel
theorem dX10_seat_5 : decode cX10_seat 5 = .ok (.invokestatic 118, 3) := by decide +kernel
theorem dX10_seat_8 : decode cX10_seat 8 = .ok (.ifCond .eq 13, 3) := by decide +kernel
theorem dX10_seat_11 : decode cX10_seat 11 = .ok (.iload_n 2, 1) := by decide +kernel
theorem dX10_seat_12 : decode cX10_seat 12 = .ok (.iconst 1, 1) := by decide +kernel
theorem dX10_seat_13 : decode cX10_seat 13 = .ok (.bipush 6, 2) := by decide +kernel
theorem dX10_seat_15 : decode cX10_seat 15 = .ok (.invokestatic 118, 3) := by decide +kernel
theorem dX10_seat_18 : decode cX10_seat 18 = .ok (.ifCond .ne 7, 3) := by decide +kernel
theorem dX10_seat_21 : decode cX10_seat 21 = .ok (.iconst 1, 1) := by decide +kernel
theorem dX10_seat_22 : decode cX10_seat 22 = .ok (.goto 4, 3) := by decide +kernel
theorem dX10_seat_25 : decode cX10_seat 25 = .ok (.iconst 0, 1) := by decide +kernel
theorem dX10_seat_26 : decode cX10_seat 26 = .ok (.iconst 1, 1) := by decide +kernel
theorem dX10_seat_27 : decode cX10_seat 27 = .ok (.invokevirtual 126, 3) := by decide +kernel
theorem dX10_seat_30 : decode cX10_seat 30 = .ok (.ifCond .ne 24, 3) := by decide +kernel
theorem dX10_seat_33 : decode cX10_seat 33 = .ok (.aload_n 0, 1) := by decide +kernel
theorem dX10_seat_34 : decode cX10_seat 34 = .ok (.aload_n 0, 1) := by decide +kernel
theorem dX10_seat_35 : decode cX10_seat 35 = .ok (.getfield 115, 3) := by decide +kernel
theorem dX10_seat_38 : decode cX10_seat 38 = .ok (.iconst 4, 1) := by decide +kernel
theorem dX10_seat_39 : decode cX10_seat 39 = .ok (.if_icmp .ne 7, 3) := by decide +kernel
theorem dX10_seat_42 : decode cX10_seat 42 = .ok (.iconst 1, 1) := by decide +kernel
theorem dX10_seat_43 : decode cX10_seat 43 = .ok (.goto 4, 3) := by decide +kernel
theorem dX10_seat_46 : decode cX10_seat 46 = .ok (.iconst 0, 1) := by decide +kernel
theorem dX10_seat_47 : decode cX10_seat 47 = .ok (.iconst 2, 1) := by decide +kernel
theorem dX10_seat_48 : decode cX10_seat 48 = .ok (.invokevirtual 126, 3) := by decide +kernel
theorem dX10_seat_51 : decode cX10_seat 51 = .ok (.ifCond .eq 5, 3) := by decide +kernel
theorem dX10_seat_54 : decode cX10_seat 54 = .ok (.iconst 0, 1) := by decide +kernel
theorem dX10_seat_55 : decode cX10_seat 55 = .ok (.ireturn, 1) := by decide +kernel
theorem dX10_seat_56 : decode cX10_seat 56 = .ok (.aload_n 0, 1) := by decide +kernel
theorem dX10_seat_57 : decode cX10_seat 57 = .ok (.getfield 9, 3) := by decide +kernel
theorem dX10_seat_60 : decode cX10_seat 60 = .ok (.aload_n 0, 1) := by decide +kernel
theorem dX10_seat_61 : decode cX10_seat 61 = .ok (.getfield 115, 3) := by decide +kernel
theorem dX10_seat_64 : decode cX10_seat 64 = .ok (.iload_n 1, 1) := by decide +kernel
theorem dX10_seat_65 : decode cX10_seat 65 = .ok (.iastore, 1) := by decide +kernel
theorem dX10_seat_66 : decode cX10_seat 66 = .ok (.aload_n 0, 1) := by decide +kernel
theorem dX10_seat_67 : decode cX10_seat 67 = .ok (.getfield 13, 3) := by decide +kernel
theorem dX10_seat_70 : decode cX10_seat 70 = .ok (.aload_n 0, 1) := by decide +kernel
theorem dX10_seat_71 : decode cX10_seat 71 = .ok (.getfield 115, 3) := by decide +kernel
theorem dX10_seat_74 : decode cX10_seat 74 = .ok (.iload_n 2, 1) := by decide +kernel
theorem dX10_seat_75 : decode cX10_seat 75 = .ok (.iastore, 1) := by decide +kernel
theorem dX10_seat_76 : decode cX10_seat 76 = .ok (.aload_n 0, 1) := by decide +kernel
theorem dX10_seat_77 : decode cX10_seat 77 = .ok (.getfield 83, 3) := by decide +kernel
theorem dX10_seat_80 : decode cX10_seat 80 = .ok (.aload_n 0, 1) := by decide +kernel
theorem dX10_seat_81 : decode cX10_seat 81 = .ok (.getfield 115, 3) := by decide +kernel
theorem dX10_seat_84 : decode cX10_seat 84 = .ok (.bipush 20, 2) := by decide +kernel
theorem dX10_seat_86 : decode cX10_seat 86 = .ok (.iastore, 1) := by decide +kernel
theorem dX10_seat_87 : decode cX10_seat 87 = .ok (.aload_n 0, 1) := by decide +kernel
theorem dX10_seat_88 : decode cX10_seat 88 = .ok (.dup, 1) := by decide +kernel
theorem dX10_seat_89 : decode cX10_seat 89 = .ok (.getfield 115, 3) := by decide +kernel
theorem dX10_seat_92 : decode cX10_seat 92 = .ok (.iconst 1, 1) := by decide +kernel
theorem dX10_seat_93 : decode cX10_seat 93 = .ok (.iadd, 1) := by decide +kernel
theorem dX10_seat_94 : decode cX10_seat 94 = .ok (.putfield 115, 3) := by decide +kernel
theorem dX10_seat_97 : decode cX10_seat 97 = .ok (.aload_n 0, 1) := by decide +kernel
theorem dX10_seat_98 : decode cX10_seat 98 = .ok (.getfield 115, 3) := by decide +kernel
theorem dX10_seat_101 : decode cX10_seat 101 = .ok (.iconst 1, 1) := by decide +kernel
theorem dX10_seat_102 : decode cX10_seat 102 = .ok (.isub, 1) := by decide +kernel
theorem dX10_seat_103 : decode cX10_seat 103 = .ok (.ireturn, 1) := by decide +kernel
theorem dX10_last_0 : decode cX10_last 0 = .ok (.aload_n 0, 1) := by decide +kernel
theorem dX10_last_1 : decode cX10_last 1 = .ok (.getfield 16, 3) := by decide +kernel
theorem dX10_last_4 : decode cX10_last 4 = .ok (.iload_n 1, 1) := by decide +kernel
theorem dX10_last_5 : decode cX10_last 5 = .ok (.iaload, 1) := by decide +kernel
theorem dX10_last_6 : decode cX10_last 6 = .ok (.ifCond .ne 8, 3) := by decide +kernel
theorem dX10_last_9 : decode cX10_last 9 = .ok (.bipush 45, 2) := by decide +kernel
theorem dX10_last_11 : decode cX10_last 11 = .ok (.goto 18, 3) := by decide +kernel
theorem dX10_last_14 : decode cX10_last 14 = .ok (.aload_n 0, 1) := by decide +kernel
theorem dX10_last_15 : decode cX10_last 15 = .ok (.getfield 21, 3) := by decide +kernel
theorem dX10_last_18 : decode cX10_last 18 = .ok (.iload_n 1, 1) := by decide +kernel
theorem dX10_last_19 : decode cX10_last 19 = .ok (.aaload, 1) := by decide +kernel
theorem dX10_last_20 : decode cX10_last 20 = .ok (.aload_n 0, 1) := by decide +kernel
theorem dX10_last_21 : decode cX10_last 21 = .ok (.getfield 16, 3) := by decide +kernel
theorem dX10_last_24 : decode cX10_last 24 = .ok (.iload_n 1, 1) := by decide +kernel
theorem dX10_last_25 : decode cX10_last 25 = .ok (.iaload, 1) := by decide +kernel
theorem dX10_last_26 : decode cX10_last 26 = .ok (.iconst 1, 1) := by decide +kernel
theorem dX10_last_27 : decode cX10_last 27 = .ok (.isub, 1) := by decide +kernel
theorem dX10_last_28 : decode cX10_last 28 = .ok (.caload, 1) := by decide +kernel
theorem dX10_last_29 : decode cX10_last 29 = .ok (.ireturn, 1) := by decide +kernel
theorem dX10_isLastSigned_0 : decode cX10_isLastSigned 0 = .ok (.aload_n 0, 1) := by decide +kernel
theorem dX10_isLastSigned_1 : decode cX10_isLastSigned 1 = .ok (.getfield 16, 3) := by decide +kernel
theorem dX10_isLastSigned_4 : decode cX10_isLastSigned 4 = .ok (.iload_n 1, 1) := by decide +kernel
theorem dX10_isLastSigned_5 : decode cX10_isLastSigned 5 = .ok (.iaload, 1) := by decide +kernel
theorem dX10_isLastSigned_6 : decode cX10_isLastSigned 6 = .ok (.ifCond .eq 21, 3) := by decide +kernel
theorem dX10_isLastSigned_9 : decode cX10_isLastSigned 9 = .ok (.aload_n 0, 1) := by decide +kernel
theorem dX10_isLastSigned_10 : decode cX10_isLastSigned 10 = .ok (.getfield 26, 3) := by decide +kernel
theorem dX10_isLastSigned_13 : decode cX10_isLastSigned 13 = .ok (.iload_n 1, 1) := by decide +kernel
theorem dX10_isLastSigned_14 : decode cX10_isLastSigned 14 = .ok (.aaload, 1) := by decide +kernel
theorem dX10_isLastSigned_15 : decode cX10_isLastSigned 15 = .ok (.aload_n 0, 1) := by decide +kernel
theorem dX10_isLastSigned_16 : decode cX10_isLastSigned 16 = .ok (.getfield 16, 3) := by decide +kernel
theorem dX10_isLastSigned_19 : decode cX10_isLastSigned 19 = .ok (.iload_n 1, 1) := by decide +kernel
theorem dX10_isLastSigned_20 : decode cX10_isLastSigned 20 = .ok (.iaload, 1) := by decide +kernel
theorem dX10_isLastSigned_21 : decode cX10_isLastSigned 21 = .ok (.iconst 1, 1) := by decide +kernel
theorem dX10_isLastSigned_22 : decode cX10_isLastSigned 22 = .ok (.isub, 1) := by decide +kernel
theorem dX10_isLastSigned_23 : decode cX10_isLastSigned 23 = .ok (.baload, 1) := by decide +kernel
theorem dX10_isLastSigned_24 : decode cX10_isLastSigned 24 = .ok (.ifCond .eq 7, 3) := by decide +kernel
theorem dX10_isLastSigned_27 : decode cX10_isLastSigned 27 = .ok (.iconst 1, 1) := by decide +kernel
theorem dX10_isLastSigned_28 : decode cX10_isLastSigned 28 = .ok (.goto 4, 3) := by decide +kernel
theorem dX10_isLastSigned_31 : decode cX10_isLastSigned 31 = .ok (.iconst 0, 1) := by decide +kernel
theorem dX10_isLastSigned_32 : decode cX10_isLastSigned 32 = .ok (.ireturn, 1) := by decide +kernel
theorem dX10_isLastOpen_0 : decode cX10_isLastOpen 0 = .ok (.aload_n 0, 1) := by decide +kernel
theorem dX10_isLastOpen_1 : decode cX10_isLastOpen 1 = .ok (.iload_n 1, 1) := by decide +kernel
theorem dX10_isLastOpen_2 : decode cX10_isLastOpen 2 = .ok (.invokevirtual 130, 3) := by decide +kernel
theorem dX10_isLastOpen_5 : decode cX10_isLastOpen 5 = .ok (.iload_n 2, 1) := by decide +kernel
theorem dX10_isLastOpen_6 : decode cX10_isLastOpen 6 = .ok (.if_icmp .ne 15, 3) := by decide +kernel
theorem dX10_isLastOpen_9 : decode cX10_isLastOpen 9 = .ok (.aload_n 0, 1) := by decide +kernel
theorem dX10_isLastOpen_10 : decode cX10_isLastOpen 10 = .ok (.iload_n 1, 1) := by decide +kernel
theorem dX10_isLastOpen_11 : decode cX10_isLastOpen 11 = .ok (.invokevirtual 134, 3) := by decide +kernel
theorem dX10_isLastOpen_14 : decode cX10_isLastOpen 14 = .ok (.ifCond .ne 7, 3) := by decide +kernel
theorem dX10_isLastOpen_17 : decode cX10_isLastOpen 17 = .ok (.iconst 1, 1) := by decide +kernel
theorem dX10_isLastOpen_18 : decode cX10_isLastOpen 18 = .ok (.goto 4, 3) := by decide +kernel
theorem dX10_isLastOpen_21 : decode cX10_isLastOpen 21 = .ok (.iconst 0, 1) := by decide +kernel
theorem dX10_isLastOpen_22 : decode cX10_isLastOpen 22 = .ok (.ireturn, 1) := by decide +kernel
theorem dX10_mayCome_0 : decode cX10_mayCome 0 = .ok (.aload_n 0, 1) := by decide +kernel
theorem dX10_mayCome_1 : decode cX10_mayCome 1 = .ok (.iload_n 1, 1) := by decide +kernel
theorem dX10_mayCome_2 : decode cX10_mayCome 2 = .ok (.invokevirtual 130, 3) := by decide +kernel
theorem dX10_mayCome_5 : decode cX10_mayCome 5 = .ok (.istore_n 3, 1) := by decide +kernel
theorem dX10_mayCome_6 : decode cX10_mayCome 6 = .ok (.iload_n 2, 1) := by decide +kernel
theorem dX10_mayCome_7 : decode cX10_mayCome 7 = .ok (.lookupswitch 151 #[(98, 135), (108, 97), (115, 65), (116, 81), (119, 49)], 49) := by decide +kernel
theorem dX10_mayCome_56 : decode cX10_mayCome 56 = .ok (.iload_n 3, 1) := by decide +kernel
theorem dX10_mayCome_57 : decode cX10_mayCome 57 = .ok (.bipush 45, 2) := by decide +kernel
theorem dX10_mayCome_59 : decode cX10_mayCome 59 = .ok (.if_icmp .ne 7, 3) := by decide +kernel
theorem dX10_mayCome_62 : decode cX10_mayCome 62 = .ok (.iconst 1, 1) := by decide +kernel
theorem dX10_mayCome_63 : decode cX10_mayCome 63 = .ok (.goto 4, 3) := by decide +kernel
theorem dX10_mayCome_66 : decode cX10_mayCome 66 = .ok (.iconst 0, 1) := by decide +kernel
theorem dX10_mayCome_67 : decode cX10_mayCome 67 = .ok (.istore 4, 2) := by decide +kernel
theorem dX10_mayCome_69 : decode cX10_mayCome 69 = .ok (.goto 108, 3) := by decide +kernel
theorem dX10_mayCome_72 : decode cX10_mayCome 72 = .ok (.iload_n 3, 1) := by decide +kernel
theorem dX10_mayCome_73 : decode cX10_mayCome 73 = .ok (.bipush 119, 2) := by decide +kernel
theorem dX10_mayCome_75 : decode cX10_mayCome 75 = .ok (.if_icmp .ne 7, 3) := by decide +kernel
theorem dX10_mayCome_78 : decode cX10_mayCome 78 = .ok (.iconst 1, 1) := by decide +kernel
theorem dX10_mayCome_79 : decode cX10_mayCome 79 = .ok (.goto 4, 3) := by decide +kernel
theorem dX10_mayCome_82 : decode cX10_mayCome 82 = .ok (.iconst 0, 1) := by decide +kernel
theorem dX10_mayCome_83 : decode cX10_mayCome 83 = .ok (.istore 4, 2) := by decide +kernel
theorem dX10_mayCome_85 : decode cX10_mayCome 85 = .ok (.goto 92, 3) := by decide +kernel
theorem dX10_mayCome_88 : decode cX10_mayCome 88 = .ok (.iload_n 3, 1) := by decide +kernel
theorem dX10_mayCome_89 : decode cX10_mayCome 89 = .ok (.bipush 115, 2) := by decide +kernel
theorem dX10_mayCome_91 : decode cX10_mayCome 91 = .ok (.if_icmp .ne 7, 3) := by decide +kernel
theorem dX10_mayCome_94 : decode cX10_mayCome 94 = .ok (.iconst 1, 1) := by decide +kernel
theorem dX10_mayCome_95 : decode cX10_mayCome 95 = .ok (.goto 4, 3) := by decide +kernel
theorem dX10_mayCome_98 : decode cX10_mayCome 98 = .ok (.iconst 0, 1) := by decide +kernel
theorem dX10_mayCome_99 : decode cX10_mayCome 99 = .ok (.istore 4, 2) := by decide +kernel
theorem dX10_mayCome_101 : decode cX10_mayCome 101 = .ok (.goto 76, 3) := by decide +kernel
theorem dX10_mayCome_104 : decode cX10_mayCome 104 = .ok (.iload_n 3, 1) := by decide +kernel
theorem dX10_mayCome_105 : decode cX10_mayCome 105 = .ok (.bipush 115, 2) := by decide +kernel
theorem dX10_mayCome_107 : decode cX10_mayCome 107 = .ok (.if_icmp .eq 25, 3) := by decide +kernel
theorem dX10_mayCome_110 : decode cX10_mayCome 110 = .ok (.iload_n 3, 1) := by decide +kernel
theorem dX10_mayCome_111 : decode cX10_mayCome 111 = .ok (.bipush 116, 2) := by decide +kernel
theorem dX10_mayCome_113 : decode cX10_mayCome 113 = .ok (.if_icmp .eq 19, 3) := by decide +kernel
theorem dX10_mayCome_116 : decode cX10_mayCome 116 = .ok (.iload_n 3, 1) := by decide +kernel
theorem dX10_mayCome_117 : decode cX10_mayCome 117 = .ok (.bipush 108, 2) := by decide +kernel
theorem dX10_mayCome_119 : decode cX10_mayCome 119 = .ok (.if_icmp .ne 17, 3) := by decide +kernel
theorem dX10_mayCome_122 : decode cX10_mayCome 122 = .ok (.aload_n 0, 1) := by decide +kernel
theorem dX10_mayCome_123 : decode cX10_mayCome 123 = .ok (.getfield 48, 3) := by decide +kernel
theorem dX10_mayCome_126 : decode cX10_mayCome 126 = .ok (.iload_n 1, 1) := by decide +kernel
theorem dX10_mayCome_127 : decode cX10_mayCome 127 = .ok (.iaload, 1) := by decide +kernel
theorem dX10_mayCome_128 : decode cX10_mayCome 128 = .ok (.iconst 4, 1) := by decide +kernel
theorem dX10_mayCome_129 : decode cX10_mayCome 129 = .ok (.if_icmp .ge 7, 3) := by decide +kernel
theorem dX10_mayCome_132 : decode cX10_mayCome 132 = .ok (.iconst 1, 1) := by decide +kernel
theorem dX10_mayCome_133 : decode cX10_mayCome 133 = .ok (.goto 4, 3) := by decide +kernel
theorem dX10_mayCome_136 : decode cX10_mayCome 136 = .ok (.iconst 0, 1) := by decide +kernel
theorem dX10_mayCome_137 : decode cX10_mayCome 137 = .ok (.istore 4, 2) := by decide +kernel
theorem dX10_mayCome_139 : decode cX10_mayCome 139 = .ok (.goto 38, 3) := by decide +kernel
theorem dX10_mayCome_142 : decode cX10_mayCome 142 = .ok (.iload_n 3, 1) := by decide +kernel
theorem dX10_mayCome_143 : decode cX10_mayCome 143 = .ok (.bipush 108, 2) := by decide +kernel
theorem dX10_mayCome_145 : decode cX10_mayCome 145 = .ok (.if_icmp .ne 7, 3) := by decide +kernel
theorem dX10_mayCome_148 : decode cX10_mayCome 148 = .ok (.iconst 1, 1) := by decide +kernel
theorem dX10_mayCome_149 : decode cX10_mayCome 149 = .ok (.goto 4, 3) := by decide +kernel
theorem dX10_mayCome_152 : decode cX10_mayCome 152 = .ok (.iconst 0, 1) := by decide +kernel
theorem dX10_mayCome_153 : decode cX10_mayCome 153 = .ok (.istore 4, 2) := by decide +kernel
theorem dX10_mayCome_155 : decode cX10_mayCome 155 = .ok (.goto 22, 3) := by decide +kernel
theorem dX10_mayCome_158 : decode cX10_mayCome 158 = .ok (.iload_n 3, 1) := by decide +kernel
theorem dX10_mayCome_159 : decode cX10_mayCome 159 = .ok (.bipush 108, 2) := by decide +kernel
theorem dX10_mayCome_161 : decode cX10_mayCome 161 = .ok (.if_icmp .eq 9, 3) := by decide +kernel
theorem dX10_mayCome_164 : decode cX10_mayCome 164 = .ok (.iload_n 3, 1) := by decide +kernel
theorem dX10_mayCome_165 : decode cX10_mayCome 165 = .ok (.bipush 98, 2) := by decide +kernel
theorem dX10_mayCome_167 : decode cX10_mayCome 167 = .ok (.if_icmp .ne 7, 3) := by decide +kernel
theorem dX10_mayCome_170 : decode cX10_mayCome 170 = .ok (.iconst 1, 1) := by decide +kernel
theorem dX10_mayCome_171 : decode cX10_mayCome 171 = .ok (.goto 4, 3) := by decide +kernel
theorem dX10_mayCome_174 : decode cX10_mayCome 174 = .ok (.iconst 0, 1) := by decide +kernel
theorem dX10_mayCome_175 : decode cX10_mayCome 175 = .ok (.istore 4, 2) := by decide +kernel
theorem dX10_mayCome_177 : decode cX10_mayCome 177 = .ok (.iload 4, 2) := by decide +kernel
theorem dX10_mayCome_179 : decode cX10_mayCome 179 = .ok (.ifCond .eq 15, 3) := by decide +kernel
theorem dX10_mayCome_182 : decode cX10_mayCome 182 = .ok (.aload_n 0, 1) := by decide +kernel
theorem dX10_mayCome_183 : decode cX10_mayCome 183 = .ok (.iload_n 1, 1) := by decide +kernel
theorem dX10_mayCome_184 : decode cX10_mayCome 184 = .ok (.invokevirtual 134, 3) := by decide +kernel
theorem dX10_mayCome_187 : decode cX10_mayCome 187 = .ok (.ifCond .eq 7, 3) := by decide +kernel
theorem dX10_mayCome_190 : decode cX10_mayCome 190 = .ok (.iconst 1, 1) := by decide +kernel
theorem dX10_mayCome_191 : decode cX10_mayCome 191 = .ok (.goto 4, 3) := by decide +kernel
theorem dX10_mayCome_194 : decode cX10_mayCome 194 = .ok (.iconst 0, 1) := by decide +kernel
theorem dX10_mayCome_195 : decode cX10_mayCome 195 = .ok (.ireturn, 1) := by decide +kernel
theorem dX10_done_0 : decode cX10_done 0 = .ok (.aload_n 0, 1) := by decide +kernel
theorem dX10_done_1 : decode cX10_done 1 = .ok (.getfield 21, 3) := by decide +kernel
theorem dX10_done_4 : decode cX10_done 4 = .ok (.iload_n 1, 1) := by decide +kernel
theorem dX10_done_5 : decode cX10_done 5 = .ok (.aaload, 1) := by decide +kernel
theorem dX10_done_6 : decode cX10_done 6 = .ok (.aload_n 0, 1) := by decide +kernel
theorem dX10_done_7 : decode cX10_done 7 = .ok (.getfield 16, 3) := by decide +kernel
theorem dX10_done_10 : decode cX10_done 10 = .ok (.iload_n 1, 1) := by decide +kernel
theorem dX10_done_11 : decode cX10_done 11 = .ok (.iaload, 1) := by decide +kernel
theorem dX10_done_12 : decode cX10_done 12 = .ok (.iload_n 2, 1) := by decide +kernel
theorem dX10_done_13 : decode cX10_done 13 = .ok (.castore, 1) := by decide +kernel
theorem dX10_done_14 : decode cX10_done 14 = .ok (.aload_n 0, 1) := by decide +kernel
theorem dX10_done_15 : decode cX10_done 15 = .ok (.getfield 26, 3) := by decide +kernel
theorem dX10_done_18 : decode cX10_done 18 = .ok (.iload_n 1, 1) := by decide +kernel
theorem dX10_done_19 : decode cX10_done 19 = .ok (.aaload, 1) := by decide +kernel
theorem dX10_done_20 : decode cX10_done 20 = .ok (.aload_n 0, 1) := by decide +kernel
theorem dX10_done_21 : decode cX10_done 21 = .ok (.getfield 16, 3) := by decide +kernel
theorem dX10_done_24 : decode cX10_done 24 = .ok (.iload_n 1, 1) := by decide +kernel
theorem dX10_done_25 : decode cX10_done 25 = .ok (.iaload, 1) := by decide +kernel
theorem dX10_done_26 : decode cX10_done 26 = .ok (.iconst 0, 1) := by decide +kernel
theorem dX10_done_27 : decode cX10_done 27 = .ok (.bastore, 1) := by decide +kernel
theorem dX10_done_28 : decode cX10_done 28 = .ok (.aload_n 0, 1) := by decide +kernel
theorem dX10_done_29 : decode cX10_done 29 = .ok (.getfield 16, 3) := by decide +kernel
theorem dX10_done_32 : decode cX10_done 32 = .ok (.iload_n 1, 1) := by decide +kernel
theorem dX10_done_33 : decode cX10_done 33 = .ok (.dup2, 1) := by decide +kernel
theorem dX10_done_34 : decode cX10_done 34 = .ok (.iaload, 1) := by decide +kernel
theorem dX10_done_35 : decode cX10_done 35 = .ok (.iconst 1, 1) := by decide +kernel
theorem dX10_done_36 : decode cX10_done 36 = .ok (.iadd, 1) := by decide +kernel
theorem dX10_done_37 : decode cX10_done 37 = .ok (.iastore, 1) := by decide +kernel
theorem dX10_done_38 : decode cX10_done 38 = .ok (.aload_n 0, 1) := by decide +kernel
theorem dX10_done_39 : decode cX10_done 39 = .ok (.getfield 16, 3) := by decide +kernel
theorem dX10_done_42 : decode cX10_done 42 = .ok (.iload_n 1, 1) := by decide +kernel
theorem dX10_done_43 : decode cX10_done 43 = .ok (.iaload, 1) := by decide +kernel
theorem dX10_done_44 : decode cX10_done 44 = .ok (.iconst 1, 1) := by decide +kernel
theorem dX10_done_45 : decode cX10_done 45 = .ok (.isub, 1) := by decide +kernel
theorem dX10_done_46 : decode cX10_done 46 = .ok (.ireturn, 1) := by decide +kernel
theorem dX10_web_0 : decode cX10_web 0 = .ok (.aload_n 0, 1) := by decide +kernel
theorem dX10_web_1 : decode cX10_web 1 = .ok (.aload_n 0, 1) := by decide +kernel
theorem dX10_web_2 : decode cX10_web 2 = .ok (.iload_n 1, 1) := by decide +kernel
theorem dX10_web_3 : decode cX10_web 3 = .ok (.invokevirtual 122, 3) := by decide +kernel
theorem dX10_web_6 : decode cX10_web 6 = .ok (.iconst 1, 1) := by decide +kernel
theorem dX10_web_7 : decode cX10_web 7 = .ok (.invokevirtual 126, 3) := by decide +kernel
theorem dX10_web_10 : decode cX10_web 10 = .ok (.ifCond .ne 49, 3) := by decide +kernel
theorem dX10_web_13 : decode cX10_web 13 = .ok (.aload_n 0, 1) := by decide +kernel
theorem dX10_web_14 : decode cX10_web 14 = .ok (.iload_n 2, 1) := by decide +kernel
theorem dX10_web_15 : decode cX10_web 15 = .ok (.iconst 1, 1) := by decide +kernel
theorem dX10_web_16 : decode cX10_web 16 = .ok (.bipush 9, 2) := by decide +kernel
theorem dX10_web_18 : decode cX10_web 18 = .ok (.invokestatic 118, 3) := by decide +kernel
theorem dX10_web_21 : decode cX10_web 21 = .ok (.ifCond .ne 7, 3) := by decide +kernel
theorem dX10_web_24 : decode cX10_web 24 = .ok (.iconst 1, 1) := by decide +kernel
theorem dX10_web_25 : decode cX10_web 25 = .ok (.goto 4, 3) := by decide +kernel
theorem dX10_web_28 : decode cX10_web 28 = .ok (.iconst 0, 1) := by decide +kernel
theorem dX10_web_29 : decode cX10_web 29 = .ok (.iconst 2, 1) := by decide +kernel
theorem dX10_web_30 : decode cX10_web 30 = .ok (.invokevirtual 126, 3) := by decide +kernel
theorem dX10_web_33 : decode cX10_web 33 = .ok (.ifCond .ne 26, 3) := by decide +kernel
theorem dX10_web_36 : decode cX10_web 36 = .ok (.aload_n 0, 1) := by decide +kernel
theorem dX10_web_37 : decode cX10_web 37 = .ok (.aload_n 0, 1) := by decide +kernel
theorem dX10_web_38 : decode cX10_web 38 = .ok (.iload_n 1, 1) := by decide +kernel
theorem dX10_web_39 : decode cX10_web 39 = .ok (.bipush 119, 2) := by decide +kernel
theorem dX10_web_41 : decode cX10_web 41 = .ok (.invokevirtual 137, 3) := by decide +kernel
theorem dX10_web_44 : decode cX10_web 44 = .ok (.ifCond .ne 7, 3) := by decide +kernel
theorem dX10_web_47 : decode cX10_web 47 = .ok (.iconst 1, 1) := by decide +kernel
theorem dX10_web_48 : decode cX10_web 48 = .ok (.goto 4, 3) := by decide +kernel
theorem dX10_web_51 : decode cX10_web 51 = .ok (.iconst 0, 1) := by decide +kernel
theorem dX10_web_52 : decode cX10_web 52 = .ok (.iconst 3, 1) := by decide +kernel
theorem dX10_web_53 : decode cX10_web 53 = .ok (.invokevirtual 126, 3) := by decide +kernel
theorem dX10_web_56 : decode cX10_web 56 = .ok (.ifCond .eq 5, 3) := by decide +kernel
theorem dX10_web_59 : decode cX10_web 59 = .ok (.iconst 0, 1) := by decide +kernel
theorem dX10_web_60 : decode cX10_web 60 = .ok (.ireturn, 1) := by decide +kernel
theorem dX10_web_61 : decode cX10_web 61 = .ok (.aload_n 0, 1) := by decide +kernel
theorem dX10_web_62 : decode cX10_web 62 = .ok (.getfield 29, 3) := by decide +kernel
theorem dX10_web_65 : decode cX10_web 65 = .ok (.iload_n 1, 1) := by decide +kernel
theorem dX10_web_66 : decode cX10_web 66 = .ok (.iload_n 2, 1) := by decide +kernel
theorem dX10_web_67 : decode cX10_web 67 = .ok (.iastore, 1) := by decide +kernel
theorem dX10_web_68 : decode cX10_web 68 = .ok (.aload_n 0, 1) := by decide +kernel
theorem dX10_web_69 : decode cX10_web 69 = .ok (.iload_n 1, 1) := by decide +kernel
theorem dX10_web_70 : decode cX10_web 70 = .ok (.bipush 119, 2) := by decide +kernel
theorem dX10_web_72 : decode cX10_web 72 = .ok (.invokevirtual 141, 3) := by decide +kernel
theorem dX10_web_75 : decode cX10_web 75 = .ok (.ireturn, 1) := by decide +kernel
theorem dX10_isSpring_0 : decode cX10_isSpring 0 = .ok (.iload_n 0, 1) := by decide +kernel
theorem dX10_isSpring_1 : decode cX10_isSpring 1 = .ok (.bipush 20, 2) := by decide +kernel
theorem dX10_isSpring_3 : decode cX10_isSpring 3 = .ok (.bipush 99, 2) := by decide +kernel
theorem dX10_isSpring_5 : decode cX10_isSpring 5 = .ok (.invokestatic 118, 3) := by decide +kernel
theorem dX10_isSpring_8 : decode cX10_isSpring 8 = .ok (.ifCond .eq 17, 3) := by decide +kernel
theorem dX10_isSpring_11 : decode cX10_isSpring 11 = .ok (.iload_n 1, 1) := by decide +kernel
theorem dX10_isSpring_12 : decode cX10_isSpring 12 = .ok (.iconst 1, 1) := by decide +kernel
theorem dX10_isSpring_13 : decode cX10_isSpring 13 = .ok (.bipush 9, 2) := by decide +kernel
theorem dX10_isSpring_15 : decode cX10_isSpring 15 = .ok (.invokestatic 118, 3) := by decide +kernel
theorem dX10_isSpring_18 : decode cX10_isSpring 18 = .ok (.ifCond .eq 7, 3) := by decide +kernel
theorem dX10_isSpring_21 : decode cX10_isSpring 21 = .ok (.iconst 1, 1) := by decide +kernel
theorem dX10_isSpring_22 : decode cX10_isSpring 22 = .ok (.goto 4, 3) := by decide +kernel
theorem dX10_isSpring_25 : decode cX10_isSpring 25 = .ok (.iconst 0, 1) := by decide +kernel
theorem dX10_isSpring_26 : decode cX10_isSpring 26 = .ok (.ireturn, 1) := by decide +kernel
theorem dX10_spring_0 : decode cX10_spring 0 = .ok (.aload_n 0, 1) := by decide +kernel
theorem dX10_spring_1 : decode cX10_spring 1 = .ok (.aload_n 0, 1) := by decide +kernel
theorem dX10_spring_2 : decode cX10_spring 2 = .ok (.iload_n 1, 1) := by decide +kernel
theorem dX10_spring_3 : decode cX10_spring 3 = .ok (.invokevirtual 122, 3) := by decide +kernel
theorem dX10_spring_6 : decode cX10_spring 6 = .ok (.iconst 1, 1) := by decide +kernel
theorem dX10_spring_7 : decode cX10_spring 7 = .ok (.invokevirtual 126, 3) := by decide +kernel
theorem dX10_spring_10 : decode cX10_spring 10 = .ok (.ifCond .ne 47, 3) := by decide +kernel
theorem dX10_spring_13 : decode cX10_spring 13 = .ok (.aload_n 0, 1) := by decide +kernel
theorem dX10_spring_14 : decode cX10_spring 14 = .ok (.iload_n 2, 1) := by decide +kernel
theorem dX10_spring_15 : decode cX10_spring 15 = .ok (.iload_n 3, 1) := by decide +kernel
theorem dX10_spring_16 : decode cX10_spring 16 = .ok (.invokestatic 145, 3) := by decide +kernel
theorem dX10_spring_19 : decode cX10_spring 19 = .ok (.ifCond .ne 7, 3) := by decide +kernel
theorem dX10_spring_22 : decode cX10_spring 22 = .ok (.iconst 1, 1) := by decide +kernel
theorem dX10_spring_23 : decode cX10_spring 23 = .ok (.goto 4, 3) := by decide +kernel
theorem dX10_spring_26 : decode cX10_spring 26 = .ok (.iconst 0, 1) := by decide +kernel
theorem dX10_spring_27 : decode cX10_spring 27 = .ok (.iconst 2, 1) := by decide +kernel
theorem dX10_spring_28 : decode cX10_spring 28 = .ok (.invokevirtual 126, 3) := by decide +kernel
theorem dX10_spring_31 : decode cX10_spring 31 = .ok (.ifCond .ne 26, 3) := by decide +kernel
theorem dX10_spring_34 : decode cX10_spring 34 = .ok (.aload_n 0, 1) := by decide +kernel
theorem dX10_spring_35 : decode cX10_spring 35 = .ok (.aload_n 0, 1) := by decide +kernel
theorem dX10_spring_36 : decode cX10_spring 36 = .ok (.iload_n 1, 1) := by decide +kernel
theorem dX10_spring_37 : decode cX10_spring 37 = .ok (.bipush 115, 2) := by decide +kernel
theorem dX10_spring_39 : decode cX10_spring 39 = .ok (.invokevirtual 137, 3) := by decide +kernel
theorem dX10_spring_42 : decode cX10_spring 42 = .ok (.ifCond .ne 7, 3) := by decide +kernel
theorem dX10_spring_45 : decode cX10_spring 45 = .ok (.iconst 1, 1) := by decide +kernel
theorem dX10_spring_46 : decode cX10_spring 46 = .ok (.goto 4, 3) := by decide +kernel
theorem dX10_spring_49 : decode cX10_spring 49 = .ok (.iconst 0, 1) := by decide +kernel
theorem dX10_spring_50 : decode cX10_spring 50 = .ok (.iconst 3, 1) := by decide +kernel
theorem dX10_spring_51 : decode cX10_spring 51 = .ok (.invokevirtual 126, 3) := by decide +kernel
theorem dX10_spring_54 : decode cX10_spring 54 = .ok (.ifCond .eq 5, 3) := by decide +kernel
theorem dX10_spring_57 : decode cX10_spring 57 = .ok (.iconst 0, 1) := by decide +kernel
theorem dX10_spring_58 : decode cX10_spring 58 = .ok (.ireturn, 1) := by decide +kernel
theorem dX10_spring_59 : decode cX10_spring 59 = .ok (.iconst 0, 1) := by decide +kernel
theorem dX10_spring_60 : decode cX10_spring 60 = .ok (.istore 4, 2) := by decide +kernel
theorem dX10_spring_62 : decode cX10_spring 62 = .ok (.iload 4, 2) := by decide +kernel
theorem dX10_spring_64 : decode cX10_spring 64 = .ok (.bipush 6, 2) := by decide +kernel
theorem dX10_spring_66 : decode cX10_spring 66 = .ok (.if_icmp .ge 51, 3) := by decide +kernel
theorem dX10_spring_69 : decode cX10_spring 69 = .ok (.iconst 0, 1) := by decide +kernel
theorem dX10_spring_70 : decode cX10_spring 70 = .ok (.istore 5, 2) := by decide +kernel
theorem dX10_spring_72 : decode cX10_spring 72 = .ok (.iload 5, 2) := by decide +kernel
theorem dX10_spring_74 : decode cX10_spring 74 = .ok (.bipush 6, 2) := by decide +kernel
theorem dX10_spring_76 : decode cX10_spring 76 = .ok (.if_icmp .ge 35, 3) := by decide +kernel
theorem dX10_spring_79 : decode cX10_spring 79 = .ok (.aload_n 0, 1) := by decide +kernel
theorem dX10_spring_80 : decode cX10_spring 80 = .ok (.getfield 34, 3) := by decide +kernel
theorem dX10_spring_83 : decode cX10_spring 83 = .ok (.iload_n 1, 1) := by decide +kernel
theorem dX10_spring_84 : decode cX10_spring 84 = .ok (.aaload, 1) := by decide +kernel
theorem dX10_spring_85 : decode cX10_spring 85 = .ok (.iload 4, 2) := by decide +kernel
theorem dX10_spring_87 : decode cX10_spring 87 = .ok (.aaload, 1) := by decide +kernel
theorem dX10_spring_88 : decode cX10_spring 88 = .ok (.iload 5, 2) := by decide +kernel
theorem dX10_spring_90 : decode cX10_spring 90 = .ok (.iload_n 2, 1) := by decide +kernel
theorem dX10_spring_91 : decode cX10_spring 91 = .ok (.iastore, 1) := by decide +kernel
theorem dX10_spring_92 : decode cX10_spring 92 = .ok (.aload_n 0, 1) := by decide +kernel
theorem dX10_spring_93 : decode cX10_spring 93 = .ok (.getfield 37, 3) := by decide +kernel
theorem dX10_spring_96 : decode cX10_spring 96 = .ok (.iload_n 1, 1) := by decide +kernel
theorem dX10_spring_97 : decode cX10_spring 97 = .ok (.aaload, 1) := by decide +kernel
theorem dX10_spring_98 : decode cX10_spring 98 = .ok (.iload 4, 2) := by decide +kernel
theorem dX10_spring_100 : decode cX10_spring 100 = .ok (.aaload, 1) := by decide +kernel
theorem dX10_spring_101 : decode cX10_spring 101 = .ok (.iload 5, 2) := by decide +kernel
theorem dX10_spring_103 : decode cX10_spring 103 = .ok (.iload_n 3, 1) := by decide +kernel
theorem dX10_spring_104 : decode cX10_spring 104 = .ok (.iastore, 1) := by decide +kernel
theorem dX10_spring_105 : decode cX10_spring 105 = .ok (.iinc 5 1, 3) := by decide +kernel
theorem dX10_spring_108 : decode cX10_spring 108 = .ok (.goto (-36), 3) := by decide +kernel
theorem dX10_spring_111 : decode cX10_spring 111 = .ok (.iinc 4 1, 3) := by decide +kernel
theorem dX10_spring_114 : decode cX10_spring 114 = .ok (.goto (-52), 3) := by decide +kernel
theorem dX10_spring_117 : decode cX10_spring 117 = .ok (.aload_n 0, 1) := by decide +kernel
theorem dX10_spring_118 : decode cX10_spring 118 = .ok (.iload_n 1, 1) := by decide +kernel
theorem dX10_spring_119 : decode cX10_spring 119 = .ok (.invokevirtual 149, 3) := by decide +kernel
theorem dX10_spring_122 : decode cX10_spring 122 = .ok (.aload_n 0, 1) := by decide +kernel
theorem dX10_spring_123 : decode cX10_spring 123 = .ok (.iload_n 1, 1) := by decide +kernel
theorem dX10_spring_124 : decode cX10_spring 124 = .ok (.bipush 115, 2) := by decide +kernel
theorem dX10_spring_126 : decode cX10_spring 126 = .ok (.invokevirtual 141, 3) := by decide +kernel
theorem dX10_spring_129 : decode cX10_spring 129 = .ok (.ireturn, 1) := by decide +kernel
theorem dX10_loosen_0 : decode cX10_loosen 0 = .ok (.iconst 0, 1) := by decide +kernel
theorem dX10_loosen_1 : decode cX10_loosen 1 = .ok (.istore_n 2, 1) := by decide +kernel
theorem dX10_loosen_2 : decode cX10_loosen 2 = .ok (.iload_n 2, 1) := by decide +kernel
theorem dX10_loosen_3 : decode cX10_loosen 3 = .ok (.bipush 6, 2) := by decide +kernel
theorem dX10_loosen_5 : decode cX10_loosen 5 = .ok (.if_icmp .ge 29, 3) := by decide +kernel
theorem dX10_loosen_8 : decode cX10_loosen 8 = .ok (.aload_n 0, 1) := by decide +kernel
theorem dX10_loosen_9 : decode cX10_loosen 9 = .ok (.getfield 42, 3) := by decide +kernel
theorem dX10_loosen_12 : decode cX10_loosen 12 = .ok (.iload_n 1, 1) := by decide +kernel
theorem dX10_loosen_13 : decode cX10_loosen 13 = .ok (.aaload, 1) := by decide +kernel
theorem dX10_loosen_14 : decode cX10_loosen 14 = .ok (.iload_n 2, 1) := by decide +kernel
theorem dX10_loosen_15 : decode cX10_loosen 15 = .ok (.bipush 99, 2) := by decide +kernel
theorem dX10_loosen_17 : decode cX10_loosen 17 = .ok (.iastore, 1) := by decide +kernel
theorem dX10_loosen_18 : decode cX10_loosen 18 = .ok (.aload_n 0, 1) := by decide +kernel
theorem dX10_loosen_19 : decode cX10_loosen 19 = .ok (.getfield 45, 3) := by decide +kernel
theorem dX10_loosen_22 : decode cX10_loosen 22 = .ok (.iload_n 1, 1) := by decide +kernel
theorem dX10_loosen_23 : decode cX10_loosen 23 = .ok (.aaload, 1) := by decide +kernel
theorem dX10_loosen_24 : decode cX10_loosen 24 = .ok (.iload_n 2, 1) := by decide +kernel
theorem dX10_loosen_25 : decode cX10_loosen 25 = .ok (.bipush 99, 2) := by decide +kernel
theorem dX10_loosen_27 : decode cX10_loosen 27 = .ok (.iastore, 1) := by decide +kernel
theorem dX10_loosen_28 : decode cX10_loosen 28 = .ok (.iinc 2 1, 3) := by decide +kernel
theorem dX10_loosen_31 : decode cX10_loosen 31 = .ok (.goto (-29), 3) := by decide +kernel
theorem dX10_loosen_34 : decode cX10_loosen 34 = .ok (.return_, 1) := by decide +kernel
theorem dX10_change_0 : decode cX10_change 0 = .ok (.aload_n 0, 1) := by decide +kernel
theorem dX10_change_1 : decode cX10_change 1 = .ok (.aload_n 0, 1) := by decide +kernel
theorem dX10_change_2 : decode cX10_change 2 = .ok (.iload_n 1, 1) := by decide +kernel
theorem dX10_change_3 : decode cX10_change 3 = .ok (.iload_n 2, 1) := by decide +kernel
theorem dX10_change_4 : decode cX10_change 4 = .ok (.invokevirtual 153, 3) := by decide +kernel
theorem dX10_change_7 : decode cX10_change 7 = .ok (.iconst 1, 1) := by decide +kernel
theorem dX10_change_8 : decode cX10_change 8 = .ok (.invokevirtual 126, 3) := by decide +kernel
theorem dX10_change_11 : decode cX10_change 11 = .ok (.ifCond .ne 48, 3) := by decide +kernel
theorem dX10_change_14 : decode cX10_change 14 = .ok (.aload_n 0, 1) := by decide +kernel
theorem dX10_change_15 : decode cX10_change 15 = .ok (.iload_n 3, 1) := by decide +kernel
theorem dX10_change_16 : decode cX10_change 16 = .ok (.iload 4, 2) := by decide +kernel
theorem dX10_change_18 : decode cX10_change 18 = .ok (.invokestatic 145, 3) := by decide +kernel
theorem dX10_change_21 : decode cX10_change 21 = .ok (.ifCond .ne 7, 3) := by decide +kernel
theorem dX10_change_24 : decode cX10_change 24 = .ok (.iconst 1, 1) := by decide +kernel
theorem dX10_change_25 : decode cX10_change 25 = .ok (.goto 4, 3) := by decide +kernel
theorem dX10_change_28 : decode cX10_change 28 = .ok (.iconst 0, 1) := by decide +kernel
theorem dX10_change_29 : decode cX10_change 29 = .ok (.iconst 2, 1) := by decide +kernel
theorem dX10_change_30 : decode cX10_change 30 = .ok (.invokevirtual 126, 3) := by decide +kernel
theorem dX10_change_33 : decode cX10_change 33 = .ok (.ifCond .ne 26, 3) := by decide +kernel
theorem dX10_change_36 : decode cX10_change 36 = .ok (.aload_n 0, 1) := by decide +kernel
theorem dX10_change_37 : decode cX10_change 37 = .ok (.aload_n 0, 1) := by decide +kernel
theorem dX10_change_38 : decode cX10_change 38 = .ok (.iload_n 1, 1) := by decide +kernel
theorem dX10_change_39 : decode cX10_change 39 = .ok (.bipush 115, 2) := by decide +kernel
theorem dX10_change_41 : decode cX10_change 41 = .ok (.invokevirtual 156, 3) := by decide +kernel
theorem dX10_change_44 : decode cX10_change 44 = .ok (.ifCond .ne 7, 3) := by decide +kernel
theorem dX10_change_47 : decode cX10_change 47 = .ok (.iconst 1, 1) := by decide +kernel
theorem dX10_change_48 : decode cX10_change 48 = .ok (.goto 4, 3) := by decide +kernel
theorem dX10_change_51 : decode cX10_change 51 = .ok (.iconst 0, 1) := by decide +kernel
theorem dX10_change_52 : decode cX10_change 52 = .ok (.iconst 3, 1) := by decide +kernel
theorem dX10_change_53 : decode cX10_change 53 = .ok (.invokevirtual 126, 3) := by decide +kernel
theorem dX10_change_56 : decode cX10_change 56 = .ok (.ifCond .eq 5, 3) := by decide +kernel
theorem dX10_change_59 : decode cX10_change 59 = .ok (.iconst 0, 1) := by decide +kernel
theorem dX10_change_60 : decode cX10_change 60 = .ok (.ireturn, 1) := by decide +kernel
theorem dX10_change_61 : decode cX10_change 61 = .ok (.aload_n 0, 1) := by decide +kernel
theorem dX10_change_62 : decode cX10_change 62 = .ok (.getfield 34, 3) := by decide +kernel
theorem dX10_change_65 : decode cX10_change 65 = .ok (.iload_n 1, 1) := by decide +kernel
theorem dX10_change_66 : decode cX10_change 66 = .ok (.aaload, 1) := by decide +kernel
theorem dX10_change_67 : decode cX10_change 67 = .ok (.iload_n 2, 1) := by decide +kernel
theorem dX10_change_68 : decode cX10_change 68 = .ok (.bipush 10, 2) := by decide +kernel
theorem dX10_change_70 : decode cX10_change 70 = .ok (.idiv, 1) := by decide +kernel
theorem dX10_change_71 : decode cX10_change 71 = .ok (.aaload, 1) := by decide +kernel
theorem dX10_change_72 : decode cX10_change 72 = .ok (.iload_n 2, 1) := by decide +kernel
theorem dX10_change_73 : decode cX10_change 73 = .ok (.bipush 10, 2) := by decide +kernel
theorem dX10_change_75 : decode cX10_change 75 = .ok (.irem, 1) := by decide +kernel
theorem dX10_change_76 : decode cX10_change 76 = .ok (.iaload, 1) := by decide +kernel
theorem dX10_change_77 : decode cX10_change 77 = .ok (.istore 5, 2) := by decide +kernel
theorem dX10_change_79 : decode cX10_change 79 = .ok (.aload_n 0, 1) := by decide +kernel
theorem dX10_change_80 : decode cX10_change 80 = .ok (.getfield 34, 3) := by decide +kernel
theorem dX10_change_83 : decode cX10_change 83 = .ok (.iload_n 1, 1) := by decide +kernel
theorem dX10_change_84 : decode cX10_change 84 = .ok (.aaload, 1) := by decide +kernel
theorem dX10_change_85 : decode cX10_change 85 = .ok (.iload_n 2, 1) := by decide +kernel
theorem dX10_change_86 : decode cX10_change 86 = .ok (.bipush 10, 2) := by decide +kernel
theorem dX10_change_88 : decode cX10_change 88 = .ok (.idiv, 1) := by decide +kernel
theorem dX10_change_89 : decode cX10_change 89 = .ok (.aaload, 1) := by decide +kernel
theorem dX10_change_90 : decode cX10_change 90 = .ok (.iload_n 2, 1) := by decide +kernel
theorem dX10_change_91 : decode cX10_change 91 = .ok (.bipush 10, 2) := by decide +kernel
theorem dX10_change_93 : decode cX10_change 93 = .ok (.irem, 1) := by decide +kernel
theorem dX10_change_94 : decode cX10_change 94 = .ok (.iload_n 3, 1) := by decide +kernel
theorem dX10_change_95 : decode cX10_change 95 = .ok (.iastore, 1) := by decide +kernel
theorem dX10_change_96 : decode cX10_change 96 = .ok (.aload_n 0, 1) := by decide +kernel
theorem dX10_change_97 : decode cX10_change 97 = .ok (.getfield 37, 3) := by decide +kernel
theorem dX10_change_100 : decode cX10_change 100 = .ok (.iload_n 1, 1) := by decide +kernel
theorem dX10_change_101 : decode cX10_change 101 = .ok (.aaload, 1) := by decide +kernel
theorem dX10_change_102 : decode cX10_change 102 = .ok (.iload_n 2, 1) := by decide +kernel
theorem dX10_change_103 : decode cX10_change 103 = .ok (.bipush 10, 2) := by decide +kernel
theorem dX10_change_105 : decode cX10_change 105 = .ok (.idiv, 1) := by decide +kernel
theorem dX10_change_106 : decode cX10_change 106 = .ok (.aaload, 1) := by decide +kernel
theorem dX10_change_107 : decode cX10_change 107 = .ok (.iload_n 2, 1) := by decide +kernel
theorem dX10_change_108 : decode cX10_change 108 = .ok (.bipush 10, 2) := by decide +kernel
theorem dX10_change_110 : decode cX10_change 110 = .ok (.irem, 1) := by decide +kernel
theorem dX10_change_111 : decode cX10_change 111 = .ok (.iload 4, 2) := by decide +kernel
theorem dX10_change_113 : decode cX10_change 113 = .ok (.iastore, 1) := by decide +kernel
theorem dX10_change_114 : decode cX10_change 114 = .ok (.iload 5, 2) := by decide +kernel
theorem dX10_change_116 : decode cX10_change 116 = .ok (.ireturn, 1) := by decide +kernel
theorem dX10_tie_0 : decode cX10_tie 0 = .ok (.aload_n 0, 1) := by decide +kernel
theorem dX10_tie_1 : decode cX10_tie 1 = .ok (.aload_n 0, 1) := by decide +kernel
theorem dX10_tie_2 : decode cX10_tie 2 = .ok (.iload_n 1, 1) := by decide +kernel
theorem dX10_tie_3 : decode cX10_tie 3 = .ok (.invokevirtual 122, 3) := by decide +kernel
theorem dX10_tie_6 : decode cX10_tie 6 = .ok (.iconst 1, 1) := by decide +kernel
theorem dX10_tie_7 : decode cX10_tie 7 = .ok (.invokevirtual 126, 3) := by decide +kernel
theorem dX10_tie_10 : decode cX10_tie 10 = .ok (.ifCond .ne 26, 3) := by decide +kernel
theorem dX10_tie_13 : decode cX10_tie 13 = .ok (.aload_n 0, 1) := by decide +kernel
theorem dX10_tie_14 : decode cX10_tie 14 = .ok (.aload_n 0, 1) := by decide +kernel
theorem dX10_tie_15 : decode cX10_tie 15 = .ok (.iload_n 1, 1) := by decide +kernel
theorem dX10_tie_16 : decode cX10_tie 16 = .ok (.bipush 116, 2) := by decide +kernel
theorem dX10_tie_18 : decode cX10_tie 18 = .ok (.invokevirtual 137, 3) := by decide +kernel
theorem dX10_tie_21 : decode cX10_tie 21 = .ok (.ifCond .ne 7, 3) := by decide +kernel
theorem dX10_tie_24 : decode cX10_tie 24 = .ok (.iconst 1, 1) := by decide +kernel
theorem dX10_tie_25 : decode cX10_tie 25 = .ok (.goto 4, 3) := by decide +kernel
theorem dX10_tie_28 : decode cX10_tie 28 = .ok (.iconst 0, 1) := by decide +kernel
theorem dX10_tie_29 : decode cX10_tie 29 = .ok (.iconst 2, 1) := by decide +kernel
theorem dX10_tie_30 : decode cX10_tie 30 = .ok (.invokevirtual 126, 3) := by decide +kernel
theorem dX10_tie_33 : decode cX10_tie 33 = .ok (.ifCond .eq 5, 3) := by decide +kernel
theorem dX10_tie_36 : decode cX10_tie 36 = .ok (.iconst 0, 1) := by decide +kernel
theorem dX10_tie_37 : decode cX10_tie 37 = .ok (.ireturn, 1) := by decide +kernel
theorem dX10_tie_38 : decode cX10_tie 38 = .ok (.aload_n 0, 1) := by decide +kernel
theorem dX10_tie_39 : decode cX10_tie 39 = .ok (.iload_n 1, 1) := by decide +kernel
theorem dX10_tie_40 : decode cX10_tie 40 = .ok (.invokevirtual 149, 3) := by decide +kernel
theorem dX10_tie_43 : decode cX10_tie 43 = .ok (.aload_n 0, 1) := by decide +kernel
theorem dX10_tie_44 : decode cX10_tie 44 = .ok (.iload_n 1, 1) := by decide +kernel
theorem dX10_tie_45 : decode cX10_tie 45 = .ok (.bipush 116, 2) := by decide +kernel
theorem dX10_tie_47 : decode cX10_tie 47 = .ok (.invokevirtual 141, 3) := by decide +kernel
theorem dX10_tie_50 : decode cX10_tie 50 = .ok (.ireturn, 1) := by decide +kernel
theorem dX10_standing_0 : decode cX10_standing 0 = .ok (.iconst 0, 1) := by decide +kernel
theorem dX10_standing_1 : decode cX10_standing 1 = .ok (.istore_n 2, 1) := by decide +kernel
theorem dX10_standing_2 : decode cX10_standing 2 = .ok (.iconst 0, 1) := by decide +kernel
theorem dX10_standing_3 : decode cX10_standing 3 = .ok (.istore_n 3, 1) := by decide +kernel
theorem dX10_standing_4 : decode cX10_standing 4 = .ok (.iload_n 3, 1) := by decide +kernel
theorem dX10_standing_5 : decode cX10_standing 5 = .ok (.aload_n 0, 1) := by decide +kernel
theorem dX10_standing_6 : decode cX10_standing 6 = .ok (.getfield 9, 3) := by decide +kernel
theorem dX10_standing_9 : decode cX10_standing 9 = .ok (.iload_n 1, 1) := by decide +kernel
theorem dX10_standing_10 : decode cX10_standing 10 = .ok (.iaload, 1) := by decide +kernel
theorem dX10_standing_11 : decode cX10_standing 11 = .ok (.if_icmp .ge 40, 3) := by decide +kernel
theorem dX10_standing_14 : decode cX10_standing 14 = .ok (.iconst 0, 1) := by decide +kernel
theorem dX10_standing_15 : decode cX10_standing 15 = .ok (.istore 4, 2) := by decide +kernel
theorem dX10_standing_17 : decode cX10_standing 17 = .ok (.iload 4, 2) := by decide +kernel
theorem dX10_standing_19 : decode cX10_standing 19 = .ok (.aload_n 0, 1) := by decide +kernel
theorem dX10_standing_20 : decode cX10_standing 20 = .ok (.getfield 13, 3) := by decide +kernel
theorem dX10_standing_23 : decode cX10_standing 23 = .ok (.iload_n 1, 1) := by decide +kernel
theorem dX10_standing_24 : decode cX10_standing 24 = .ok (.iaload, 1) := by decide +kernel
theorem dX10_standing_25 : decode cX10_standing 25 = .ok (.if_icmp .ge 20, 3) := by decide +kernel
theorem dX10_standing_28 : decode cX10_standing 28 = .ok (.iload_n 2, 1) := by decide +kernel
theorem dX10_standing_29 : decode cX10_standing 29 = .ok (.aload_n 0, 1) := by decide +kernel
theorem dX10_standing_30 : decode cX10_standing 30 = .ok (.iload_n 1, 1) := by decide +kernel
theorem dX10_standing_31 : decode cX10_standing 31 = .ok (.iload_n 3, 1) := by decide +kernel
theorem dX10_standing_32 : decode cX10_standing 32 = .ok (.iload 4, 2) := by decide +kernel
theorem dX10_standing_34 : decode cX10_standing 34 = .ok (.invokevirtual 159, 3) := by decide +kernel
theorem dX10_standing_37 : decode cX10_standing 37 = .ok (.iadd, 1) := by decide +kernel
theorem dX10_standing_38 : decode cX10_standing 38 = .ok (.istore_n 2, 1) := by decide +kernel
theorem dX10_standing_39 : decode cX10_standing 39 = .ok (.iinc 4 1, 3) := by decide +kernel
theorem dX10_standing_42 : decode cX10_standing 42 = .ok (.goto (-25), 3) := by decide +kernel
theorem dX10_standing_45 : decode cX10_standing 45 = .ok (.iinc 3 1, 3) := by decide +kernel
theorem dX10_standing_48 : decode cX10_standing 48 = .ok (.goto (-44), 3) := by decide +kernel
theorem dX10_standing_51 : decode cX10_standing 51 = .ok (.iload_n 2, 1) := by decide +kernel
theorem dX10_standing_52 : decode cX10_standing 52 = .ok (.ireturn, 1) := by decide +kernel
theorem dX10_pull_0 : decode cX10_pull 0 = .ok (.aload_n 0, 1) := by decide +kernel
theorem dX10_pull_1 : decode cX10_pull 1 = .ok (.aload_n 0, 1) := by decide +kernel
theorem dX10_pull_2 : decode cX10_pull 2 = .ok (.iload_n 1, 1) := by decide +kernel
theorem dX10_pull_3 : decode cX10_pull 3 = .ok (.invokevirtual 122, 3) := by decide +kernel
theorem dX10_pull_6 : decode cX10_pull 6 = .ok (.ifCond .ne 32, 3) := by decide +kernel
theorem dX10_pull_9 : decode cX10_pull 9 = .ok (.iload_n 3, 1) := by decide +kernel
theorem dX10_pull_10 : decode cX10_pull 10 = .ok (.iconst 0, 1) := by decide +kernel
theorem dX10_pull_11 : decode cX10_pull 11 = .ok (.iload_n 2, 1) := by decide +kernel
theorem dX10_pull_12 : decode cX10_pull 12 = .ok (.ifCond .eq 12, 3) := by decide +kernel
theorem dX10_pull_15 : decode cX10_pull 15 = .ok (.aload_n 0, 1) := by decide +kernel
theorem dX10_pull_16 : decode cX10_pull 16 = .ok (.getfield 9, 3) := by decide +kernel
theorem dX10_pull_19 : decode cX10_pull 19 = .ok (.iload_n 1, 1) := by decide +kernel
theorem dX10_pull_20 : decode cX10_pull 20 = .ok (.iaload, 1) := by decide +kernel
theorem dX10_pull_21 : decode cX10_pull 21 = .ok (.goto 9, 3) := by decide +kernel
theorem dX10_pull_24 : decode cX10_pull 24 = .ok (.aload_n 0, 1) := by decide +kernel
theorem dX10_pull_25 : decode cX10_pull 25 = .ok (.getfield 13, 3) := by decide +kernel
theorem dX10_pull_28 : decode cX10_pull 28 = .ok (.iload_n 1, 1) := by decide +kernel
theorem dX10_pull_29 : decode cX10_pull 29 = .ok (.iaload, 1) := by decide +kernel
theorem dX10_pull_30 : decode cX10_pull 30 = .ok (.iconst 1, 1) := by decide +kernel
theorem dX10_pull_31 : decode cX10_pull 31 = .ok (.isub, 1) := by decide +kernel
theorem dX10_pull_32 : decode cX10_pull 32 = .ok (.invokestatic 118, 3) := by decide +kernel
theorem dX10_pull_35 : decode cX10_pull 35 = .ok (.ifCond .ne 7, 3) := by decide +kernel
theorem dX10_pull_38 : decode cX10_pull 38 = .ok (.iconst 1, 1) := by decide +kernel
theorem dX10_pull_39 : decode cX10_pull 39 = .ok (.goto 4, 3) := by decide +kernel
theorem dX10_pull_42 : decode cX10_pull 42 = .ok (.iconst 0, 1) := by decide +kernel
theorem dX10_pull_43 : decode cX10_pull 43 = .ok (.iconst 1, 1) := by decide +kernel
theorem dX10_pull_44 : decode cX10_pull 44 = .ok (.invokevirtual 126, 3) := by decide +kernel
theorem dX10_pull_47 : decode cX10_pull 47 = .ok (.ifCond .ne 28, 3) := by decide +kernel
theorem dX10_pull_50 : decode cX10_pull 50 = .ok (.aload_n 0, 1) := by decide +kernel
theorem dX10_pull_51 : decode cX10_pull 51 = .ok (.iload 4, 2) := by decide +kernel
theorem dX10_pull_53 : decode cX10_pull 53 = .ok (.bipush 10, 2) := by decide +kernel
theorem dX10_pull_55 : decode cX10_pull 55 = .ok (.bipush 99, 2) := by decide +kernel
theorem dX10_pull_57 : decode cX10_pull 57 = .ok (.invokestatic 118, 3) := by decide +kernel
theorem dX10_pull_60 : decode cX10_pull 60 = .ok (.ifCond .ne 7, 3) := by decide +kernel
theorem dX10_pull_63 : decode cX10_pull 63 = .ok (.iconst 1, 1) := by decide +kernel
theorem dX10_pull_64 : decode cX10_pull 64 = .ok (.goto 4, 3) := by decide +kernel
theorem dX10_pull_67 : decode cX10_pull 67 = .ok (.iconst 0, 1) := by decide +kernel
theorem dX10_pull_68 : decode cX10_pull 68 = .ok (.iconst 2, 1) := by decide +kernel
theorem dX10_pull_69 : decode cX10_pull 69 = .ok (.invokevirtual 126, 3) := by decide +kernel
theorem dX10_pull_72 : decode cX10_pull 72 = .ok (.ifCond .eq 5, 3) := by decide +kernel
theorem dX10_pull_75 : decode cX10_pull 75 = .ok (.iconst 0, 1) := by decide +kernel
theorem dX10_pull_76 : decode cX10_pull 76 = .ok (.ireturn, 1) := by decide +kernel
theorem dX10_pull_77 : decode cX10_pull 77 = .ok (.aload_n 0, 1) := by decide +kernel
theorem dX10_pull_78 : decode cX10_pull 78 = .ok (.aload_n 0, 1) := by decide +kernel
theorem dX10_pull_79 : decode cX10_pull 79 = .ok (.iload_n 1, 1) := by decide +kernel
theorem dX10_pull_80 : decode cX10_pull 80 = .ok (.bipush 116, 2) := by decide +kernel
theorem dX10_pull_82 : decode cX10_pull 82 = .ok (.invokevirtual 156, 3) := by decide +kernel
theorem dX10_pull_85 : decode cX10_pull 85 = .ok (.ifCond .ne 7, 3) := by decide +kernel
theorem dX10_pull_88 : decode cX10_pull 88 = .ok (.iconst 1, 1) := by decide +kernel
theorem dX10_pull_89 : decode cX10_pull 89 = .ok (.goto 4, 3) := by decide +kernel
theorem dX10_pull_92 : decode cX10_pull 92 = .ok (.iconst 0, 1) := by decide +kernel
theorem dX10_pull_93 : decode cX10_pull 93 = .ok (.iconst 3, 1) := by decide +kernel
theorem dX10_pull_94 : decode cX10_pull 94 = .ok (.invokevirtual 126, 3) := by decide +kernel
theorem dX10_pull_97 : decode cX10_pull 97 = .ok (.ifCond .eq 5, 3) := by decide +kernel
theorem dX10_pull_100 : decode cX10_pull 100 = .ok (.iconst 0, 1) := by decide +kernel
theorem dX10_pull_101 : decode cX10_pull 101 = .ok (.ireturn, 1) := by decide +kernel
theorem dX10_pull_102 : decode cX10_pull 102 = .ok (.aload_n 0, 1) := by decide +kernel
theorem dX10_pull_103 : decode cX10_pull 103 = .ok (.iload_n 1, 1) := by decide +kernel
theorem dX10_pull_104 : decode cX10_pull 104 = .ok (.invokevirtual 163, 3) := by decide +kernel
theorem dX10_pull_107 : decode cX10_pull 107 = .ok (.istore 5, 2) := by decide +kernel
theorem dX10_pull_109 : decode cX10_pull 109 = .ok (.iload_n 2, 1) := by decide +kernel
theorem dX10_pull_110 : decode cX10_pull 110 = .ok (.ifCond .eq 16, 3) := by decide +kernel
theorem dX10_pull_113 : decode cX10_pull 113 = .ok (.aload_n 0, 1) := by decide +kernel
theorem dX10_pull_114 : decode cX10_pull 114 = .ok (.getfield 42, 3) := by decide +kernel
theorem dX10_pull_117 : decode cX10_pull 117 = .ok (.iload_n 1, 1) := by decide +kernel
theorem dX10_pull_118 : decode cX10_pull 118 = .ok (.aaload, 1) := by decide +kernel
theorem dX10_pull_119 : decode cX10_pull 119 = .ok (.iload_n 3, 1) := by decide +kernel
theorem dX10_pull_120 : decode cX10_pull 120 = .ok (.iload 4, 2) := by decide +kernel
theorem dX10_pull_122 : decode cX10_pull 122 = .ok (.iastore, 1) := by decide +kernel
theorem dX10_pull_123 : decode cX10_pull 123 = .ok (.goto 13, 3) := by decide +kernel
theorem dX10_pull_126 : decode cX10_pull 126 = .ok (.aload_n 0, 1) := by decide +kernel
theorem dX10_pull_127 : decode cX10_pull 127 = .ok (.getfield 45, 3) := by decide +kernel
theorem dX10_pull_130 : decode cX10_pull 130 = .ok (.iload_n 1, 1) := by decide +kernel
theorem dX10_pull_131 : decode cX10_pull 131 = .ok (.aaload, 1) := by decide +kernel
theorem dX10_pull_132 : decode cX10_pull 132 = .ok (.iload_n 3, 1) := by decide +kernel
theorem dX10_pull_133 : decode cX10_pull 133 = .ok (.iload 4, 2) := by decide +kernel
theorem dX10_pull_135 : decode cX10_pull 135 = .ok (.iastore, 1) := by decide +kernel
theorem dX10_pull_136 : decode cX10_pull 136 = .ok (.iload 5, 2) := by decide +kernel
theorem dX10_pull_138 : decode cX10_pull 138 = .ok (.aload_n 0, 1) := by decide +kernel
theorem dX10_pull_139 : decode cX10_pull 139 = .ok (.iload_n 1, 1) := by decide +kernel
theorem dX10_pull_140 : decode cX10_pull 140 = .ok (.invokevirtual 163, 3) := by decide +kernel
theorem dX10_pull_143 : decode cX10_pull 143 = .ok (.isub, 1) := by decide +kernel
theorem dX10_pull_144 : decode cX10_pull 144 = .ok (.invokestatic 167, 3) := by decide +kernel
theorem dX10_pull_147 : decode cX10_pull 147 = .ok (.ireturn, 1) := by decide +kernel
theorem dX10_isKind_0 : decode cX10_isKind 0 = .ok (.iload_n 0, 1) := by decide +kernel
theorem dX10_isKind_1 : decode cX10_isKind 1 = .ok (.bipush 104, 2) := by decide +kernel
theorem dX10_isKind_3 : decode cX10_isKind 3 = .ok (.if_icmp .eq 15, 3) := by decide +kernel
theorem dX10_isKind_6 : decode cX10_isKind 6 = .ok (.iload_n 0, 1) := by decide +kernel
theorem dX10_isKind_7 : decode cX10_isKind 7 = .ok (.bipush 102, 2) := by decide +kernel
theorem dX10_isKind_9 : decode cX10_isKind 9 = .ok (.if_icmp .eq 9, 3) := by decide +kernel
theorem dX10_isKind_12 : decode cX10_isKind 12 = .ok (.iload_n 0, 1) := by decide +kernel
theorem dX10_isKind_13 : decode cX10_isKind 13 = .ok (.bipush 100, 2) := by decide +kernel
theorem dX10_isKind_15 : decode cX10_isKind 15 = .ok (.if_icmp .ne 7, 3) := by decide +kernel
theorem dX10_isKind_18 : decode cX10_isKind 18 = .ok (.iconst 1, 1) := by decide +kernel
theorem dX10_isKind_19 : decode cX10_isKind 19 = .ok (.goto 4, 3) := by decide +kernel
theorem dX10_isKind_22 : decode cX10_isKind 22 = .ok (.iconst 0, 1) := by decide +kernel
theorem dX10_isKind_23 : decode cX10_isKind 23 = .ok (.ireturn, 1) := by decide +kernel
theorem dX10_layer_0 : decode cX10_layer 0 = .ok (.iload_n 2, 1) := by decide +kernel
theorem dX10_layer_1 : decode cX10_layer 1 = .ok (.invokestatic 172, 3) := by decide +kernel
theorem dX10_layer_4 : decode cX10_layer 4 = .ok (.ifCond .eq 28, 3) := by decide +kernel
theorem dX10_layer_7 : decode cX10_layer 7 = .ok (.iload_n 3, 1) := by decide +kernel
theorem dX10_layer_8 : decode cX10_layer 8 = .ok (.iconst 5, 1) := by decide +kernel
theorem dX10_layer_9 : decode cX10_layer 9 = .ok (.bipush 60, 2) := by decide +kernel
theorem dX10_layer_11 : decode cX10_layer 11 = .ok (.invokestatic 118, 3) := by decide +kernel
theorem dX10_layer_14 : decode cX10_layer 14 = .ok (.ifCond .eq 18, 3) := by decide +kernel
theorem dX10_layer_17 : decode cX10_layer 17 = .ok (.iload 4, 2) := by decide +kernel
theorem dX10_layer_19 : decode cX10_layer 19 = .ok (.iconst 1, 1) := by decide +kernel
theorem dX10_layer_20 : decode cX10_layer 20 = .ok (.bipush 9, 2) := by decide +kernel
theorem dX10_layer_22 : decode cX10_layer 22 = .ok (.invokestatic 118, 3) := by decide +kernel
theorem dX10_layer_25 : decode cX10_layer 25 = .ok (.ifCond .eq 7, 3) := by decide +kernel
theorem dX10_layer_28 : decode cX10_layer 28 = .ok (.iconst 1, 1) := by decide +kernel
theorem dX10_layer_29 : decode cX10_layer 29 = .ok (.goto 4, 3) := by decide +kernel
theorem dX10_layer_32 : decode cX10_layer 32 = .ok (.iconst 0, 1) := by decide +kernel
theorem dX10_layer_33 : decode cX10_layer 33 = .ok (.istore 5, 2) := by decide +kernel
theorem dX10_layer_35 : decode cX10_layer 35 = .ok (.aload_n 0, 1) := by decide +kernel
theorem dX10_layer_36 : decode cX10_layer 36 = .ok (.aload_n 0, 1) := by decide +kernel
theorem dX10_layer_37 : decode cX10_layer 37 = .ok (.iload_n 1, 1) := by decide +kernel
theorem dX10_layer_38 : decode cX10_layer 38 = .ok (.invokevirtual 122, 3) := by decide +kernel
theorem dX10_layer_41 : decode cX10_layer 41 = .ok (.iconst 1, 1) := by decide +kernel
theorem dX10_layer_42 : decode cX10_layer 42 = .ok (.invokevirtual 126, 3) := by decide +kernel
theorem dX10_layer_45 : decode cX10_layer 45 = .ok (.ifCond .ne 44, 3) := by decide +kernel
theorem dX10_layer_48 : decode cX10_layer 48 = .ok (.aload_n 0, 1) := by decide +kernel
theorem dX10_layer_49 : decode cX10_layer 49 = .ok (.iload 5, 2) := by decide +kernel
theorem dX10_layer_51 : decode cX10_layer 51 = .ok (.ifCond .ne 7, 3) := by decide +kernel
theorem dX10_layer_54 : decode cX10_layer 54 = .ok (.iconst 1, 1) := by decide +kernel
theorem dX10_layer_55 : decode cX10_layer 55 = .ok (.goto 4, 3) := by decide +kernel
theorem dX10_layer_58 : decode cX10_layer 58 = .ok (.iconst 0, 1) := by decide +kernel
theorem dX10_layer_59 : decode cX10_layer 59 = .ok (.iconst 2, 1) := by decide +kernel
theorem dX10_layer_60 : decode cX10_layer 60 = .ok (.invokevirtual 126, 3) := by decide +kernel
theorem dX10_layer_63 : decode cX10_layer 63 = .ok (.ifCond .ne 26, 3) := by decide +kernel
theorem dX10_layer_66 : decode cX10_layer 66 = .ok (.aload_n 0, 1) := by decide +kernel
theorem dX10_layer_67 : decode cX10_layer 67 = .ok (.aload_n 0, 1) := by decide +kernel
theorem dX10_layer_68 : decode cX10_layer 68 = .ok (.iload_n 1, 1) := by decide +kernel
theorem dX10_layer_69 : decode cX10_layer 69 = .ok (.bipush 108, 2) := by decide +kernel
theorem dX10_layer_71 : decode cX10_layer 71 = .ok (.invokevirtual 137, 3) := by decide +kernel
theorem dX10_layer_74 : decode cX10_layer 74 = .ok (.ifCond .ne 7, 3) := by decide +kernel
theorem dX10_layer_77 : decode cX10_layer 77 = .ok (.iconst 1, 1) := by decide +kernel
theorem dX10_layer_78 : decode cX10_layer 78 = .ok (.goto 4, 3) := by decide +kernel
theorem dX10_layer_81 : decode cX10_layer 81 = .ok (.iconst 0, 1) := by decide +kernel
theorem dX10_layer_82 : decode cX10_layer 82 = .ok (.iconst 3, 1) := by decide +kernel
theorem dX10_layer_83 : decode cX10_layer 83 = .ok (.invokevirtual 126, 3) := by decide +kernel
theorem dX10_layer_86 : decode cX10_layer 86 = .ok (.ifCond .eq 5, 3) := by decide +kernel
theorem dX10_layer_89 : decode cX10_layer 89 = .ok (.iconst 0, 1) := by decide +kernel
theorem dX10_layer_90 : decode cX10_layer 90 = .ok (.ireturn, 1) := by decide +kernel
theorem dX10_layer_91 : decode cX10_layer 91 = .ok (.aload_n 0, 1) := by decide +kernel
theorem dX10_layer_92 : decode cX10_layer 92 = .ok (.getfield 48, 3) := by decide +kernel
theorem dX10_layer_95 : decode cX10_layer 95 = .ok (.iload_n 1, 1) := by decide +kernel
theorem dX10_layer_96 : decode cX10_layer 96 = .ok (.iaload, 1) := by decide +kernel
theorem dX10_layer_97 : decode cX10_layer 97 = .ok (.istore 6, 2) := by decide +kernel
theorem dX10_layer_99 : decode cX10_layer 99 = .ok (.aload_n 0, 1) := by decide +kernel
theorem dX10_layer_100 : decode cX10_layer 100 = .ok (.getfield 51, 3) := by decide +kernel
theorem dX10_layer_103 : decode cX10_layer 103 = .ok (.iload_n 1, 1) := by decide +kernel
theorem dX10_layer_104 : decode cX10_layer 104 = .ok (.aaload, 1) := by decide +kernel
theorem dX10_layer_105 : decode cX10_layer 105 = .ok (.iload 6, 2) := by decide +kernel
theorem dX10_layer_107 : decode cX10_layer 107 = .ok (.iload_n 2, 1) := by decide +kernel
theorem dX10_layer_108 : decode cX10_layer 108 = .ok (.castore, 1) := by decide +kernel
theorem dX10_layer_109 : decode cX10_layer 109 = .ok (.aload_n 0, 1) := by decide +kernel
theorem dX10_layer_110 : decode cX10_layer 110 = .ok (.getfield 54, 3) := by decide +kernel
theorem dX10_layer_113 : decode cX10_layer 113 = .ok (.iload_n 1, 1) := by decide +kernel
theorem dX10_layer_114 : decode cX10_layer 114 = .ok (.aaload, 1) := by decide +kernel
theorem dX10_layer_115 : decode cX10_layer 115 = .ok (.iload 6, 2) := by decide +kernel
theorem dX10_layer_117 : decode cX10_layer 117 = .ok (.iload_n 3, 1) := by decide +kernel
theorem dX10_layer_118 : decode cX10_layer 118 = .ok (.iastore, 1) := by decide +kernel
theorem dX10_layer_119 : decode cX10_layer 119 = .ok (.aload_n 0, 1) := by decide +kernel
theorem dX10_layer_120 : decode cX10_layer 120 = .ok (.getfield 57, 3) := by decide +kernel
theorem dX10_layer_123 : decode cX10_layer 123 = .ok (.iload_n 1, 1) := by decide +kernel
theorem dX10_layer_124 : decode cX10_layer 124 = .ok (.aaload, 1) := by decide +kernel
theorem dX10_layer_125 : decode cX10_layer 125 = .ok (.iload 6, 2) := by decide +kernel
theorem dX10_layer_127 : decode cX10_layer 127 = .ok (.iload 4, 2) := by decide +kernel
theorem dX10_layer_129 : decode cX10_layer 129 = .ok (.iastore, 1) := by decide +kernel
theorem dX10_layer_130 : decode cX10_layer 130 = .ok (.aload_n 0, 1) := by decide +kernel
theorem dX10_layer_131 : decode cX10_layer 131 = .ok (.getfield 62, 3) := by decide +kernel
theorem dX10_layer_134 : decode cX10_layer 134 = .ok (.iload_n 1, 1) := by decide +kernel
theorem dX10_layer_135 : decode cX10_layer 135 = .ok (.aaload, 1) := by decide +kernel
theorem dX10_layer_136 : decode cX10_layer 136 = .ok (.iload 6, 2) := by decide +kernel
theorem dX10_layer_138 : decode cX10_layer 138 = .ok (.lconst 0, 1) := by decide +kernel
theorem dX10_layer_139 : decode cX10_layer 139 = .ok (.lastore, 1) := by decide +kernel
theorem dX10_layer_140 : decode cX10_layer 140 = .ok (.aload_n 0, 1) := by decide +kernel
theorem dX10_layer_141 : decode cX10_layer 141 = .ok (.getfield 65, 3) := by decide +kernel
theorem dX10_layer_144 : decode cX10_layer 144 = .ok (.iload_n 1, 1) := by decide +kernel
theorem dX10_layer_145 : decode cX10_layer 145 = .ok (.aaload, 1) := by decide +kernel
theorem dX10_layer_146 : decode cX10_layer 146 = .ok (.iload 6, 2) := by decide +kernel
theorem dX10_layer_148 : decode cX10_layer 148 = .ok (.iconst 0, 1) := by decide +kernel
theorem dX10_layer_149 : decode cX10_layer 149 = .ok (.iastore, 1) := by decide +kernel
theorem dX10_layer_150 : decode cX10_layer 150 = .ok (.aload_n 0, 1) := by decide +kernel
theorem dX10_layer_151 : decode cX10_layer 151 = .ok (.getfield 48, 3) := by decide +kernel
theorem dX10_layer_154 : decode cX10_layer 154 = .ok (.iload_n 1, 1) := by decide +kernel
theorem dX10_layer_155 : decode cX10_layer 155 = .ok (.dup2, 1) := by decide +kernel
theorem dX10_layer_156 : decode cX10_layer 156 = .ok (.iaload, 1) := by decide +kernel
theorem dX10_layer_157 : decode cX10_layer 157 = .ok (.iconst 1, 1) := by decide +kernel
theorem dX10_layer_158 : decode cX10_layer 158 = .ok (.iadd, 1) := by decide +kernel
theorem dX10_layer_159 : decode cX10_layer 159 = .ok (.iastore, 1) := by decide +kernel
theorem dX10_layer_160 : decode cX10_layer 160 = .ok (.aload_n 0, 1) := by decide +kernel
theorem dX10_layer_161 : decode cX10_layer 161 = .ok (.iload_n 1, 1) := by decide +kernel
theorem dX10_layer_162 : decode cX10_layer 162 = .ok (.bipush 108, 2) := by decide +kernel
theorem dX10_layer_164 : decode cX10_layer 164 = .ok (.invokevirtual 141, 3) := by decide +kernel
theorem dX10_layer_167 : decode cX10_layer 167 = .ok (.ireturn, 1) := by decide +kernel
theorem dX10_buttons_0 : decode cX10_buttons 0 = .ok (.aload_n 0, 1) := by decide +kernel
theorem dX10_buttons_1 : decode cX10_buttons 1 = .ok (.aload_n 0, 1) := by decide +kernel
theorem dX10_buttons_2 : decode cX10_buttons 2 = .ok (.iload_n 1, 1) := by decide +kernel
theorem dX10_buttons_3 : decode cX10_buttons 3 = .ok (.invokevirtual 122, 3) := by decide +kernel
theorem dX10_buttons_6 : decode cX10_buttons 6 = .ok (.iconst 1, 1) := by decide +kernel
theorem dX10_buttons_7 : decode cX10_buttons 7 = .ok (.invokevirtual 126, 3) := by decide +kernel
theorem dX10_buttons_10 : decode cX10_buttons 10 = .ok (.ifCond .ne 26, 3) := by decide +kernel
theorem dX10_buttons_13 : decode cX10_buttons 13 = .ok (.aload_n 0, 1) := by decide +kernel
theorem dX10_buttons_14 : decode cX10_buttons 14 = .ok (.aload_n 0, 1) := by decide +kernel
theorem dX10_buttons_15 : decode cX10_buttons 15 = .ok (.iload_n 1, 1) := by decide +kernel
theorem dX10_buttons_16 : decode cX10_buttons 16 = .ok (.bipush 98, 2) := by decide +kernel
theorem dX10_buttons_18 : decode cX10_buttons 18 = .ok (.invokevirtual 137, 3) := by decide +kernel
theorem dX10_buttons_21 : decode cX10_buttons 21 = .ok (.ifCond .ne 7, 3) := by decide +kernel
theorem dX10_buttons_24 : decode cX10_buttons 24 = .ok (.iconst 1, 1) := by decide +kernel
theorem dX10_buttons_25 : decode cX10_buttons 25 = .ok (.goto 4, 3) := by decide +kernel
theorem dX10_buttons_28 : decode cX10_buttons 28 = .ok (.iconst 0, 1) := by decide +kernel
theorem dX10_buttons_29 : decode cX10_buttons 29 = .ok (.iconst 2, 1) := by decide +kernel
theorem dX10_buttons_30 : decode cX10_buttons 30 = .ok (.invokevirtual 126, 3) := by decide +kernel
theorem dX10_buttons_33 : decode cX10_buttons 33 = .ok (.ifCond .eq 7, 3) := by decide +kernel
theorem dX10_buttons_36 : decode cX10_buttons 36 = .ok (.iconst 0, 1) := by decide +kernel
theorem dX10_buttons_37 : decode cX10_buttons 37 = .ok (.goto 10, 3) := by decide +kernel
theorem dX10_buttons_40 : decode cX10_buttons 40 = .ok (.aload_n 0, 1) := by decide +kernel
theorem dX10_buttons_41 : decode cX10_buttons 41 = .ok (.iload_n 1, 1) := by decide +kernel
theorem dX10_buttons_42 : decode cX10_buttons 42 = .ok (.bipush 98, 2) := by decide +kernel
theorem dX10_buttons_44 : decode cX10_buttons 44 = .ok (.invokevirtual 141, 3) := by decide +kernel
theorem dX10_buttons_47 : decode cX10_buttons 47 = .ok (.ireturn, 1) := by decide +kernel
theorem dX10_drawn_0 : decode cX10_drawn 0 = .ok (.iconst 0, 1) := by decide +kernel
theorem dX10_drawn_1 : decode cX10_drawn 1 = .ok (.istore_n 2, 1) := by decide +kernel
theorem dX10_drawn_2 : decode cX10_drawn 2 = .ok (.aload_n 0, 1) := by decide +kernel
theorem dX10_drawn_3 : decode cX10_drawn 3 = .ok (.getfield 68, 3) := by decide +kernel
theorem dX10_drawn_6 : decode cX10_drawn 6 = .ok (.iload_n 1, 1) := by decide +kernel
theorem dX10_drawn_7 : decode cX10_drawn 7 = .ok (.aaload, 1) := by decide +kernel
theorem dX10_drawn_8 : decode cX10_drawn 8 = .ok (.astore_n 3, 1) := by decide +kernel
theorem dX10_drawn_9 : decode cX10_drawn 9 = .ok (.aload_n 3, 1) := by decide +kernel
theorem dX10_drawn_10 : decode cX10_drawn 10 = .ok (.arraylength, 1) := by decide +kernel
theorem dX10_drawn_11 : decode cX10_drawn 11 = .ok (.istore 4, 2) := by decide +kernel
theorem dX10_drawn_13 : decode cX10_drawn 13 = .ok (.iconst 0, 1) := by decide +kernel
theorem dX10_drawn_14 : decode cX10_drawn 14 = .ok (.istore 5, 2) := by decide +kernel
theorem dX10_drawn_16 : decode cX10_drawn 16 = .ok (.iload 5, 2) := by decide +kernel
theorem dX10_drawn_18 : decode cX10_drawn 18 = .ok (.iload 4, 2) := by decide +kernel
theorem dX10_drawn_20 : decode cX10_drawn 20 = .ok (.if_icmp .ge 60, 3) := by decide +kernel
theorem dX10_drawn_23 : decode cX10_drawn 23 = .ok (.aload_n 3, 1) := by decide +kernel
theorem dX10_drawn_24 : decode cX10_drawn 24 = .ok (.iload 5, 2) := by decide +kernel
theorem dX10_drawn_26 : decode cX10_drawn 26 = .ok (.aaload, 1) := by decide +kernel
theorem dX10_drawn_27 : decode cX10_drawn 27 = .ok (.astore 6, 2) := by decide +kernel
theorem dX10_drawn_29 : decode cX10_drawn 29 = .ok (.aload 6, 2) := by decide +kernel
theorem dX10_drawn_31 : decode cX10_drawn 31 = .ok (.astore 7, 2) := by decide +kernel
theorem dX10_drawn_33 : decode cX10_drawn 33 = .ok (.aload 7, 2) := by decide +kernel
theorem dX10_drawn_35 : decode cX10_drawn 35 = .ok (.arraylength, 1) := by decide +kernel
theorem dX10_drawn_36 : decode cX10_drawn 36 = .ok (.istore 8, 2) := by decide +kernel
theorem dX10_drawn_38 : decode cX10_drawn 38 = .ok (.iconst 0, 1) := by decide +kernel
theorem dX10_drawn_39 : decode cX10_drawn 39 = .ok (.istore 9, 2) := by decide +kernel
theorem dX10_drawn_41 : decode cX10_drawn 41 = .ok (.iload 9, 2) := by decide +kernel
theorem dX10_drawn_43 : decode cX10_drawn 43 = .ok (.iload 8, 2) := by decide +kernel
theorem dX10_drawn_45 : decode cX10_drawn 45 = .ok (.if_icmp .ge 29, 3) := by decide +kernel
theorem dX10_drawn_48 : decode cX10_drawn 48 = .ok (.aload 7, 2) := by decide +kernel
theorem dX10_drawn_50 : decode cX10_drawn 50 = .ok (.iload 9, 2) := by decide +kernel
theorem dX10_drawn_52 : decode cX10_drawn 52 = .ok (.iaload, 1) := by decide +kernel
theorem dX10_drawn_53 : decode cX10_drawn 53 = .ok (.istore 10, 2) := by decide +kernel
theorem dX10_drawn_55 : decode cX10_drawn 55 = .ok (.iload_n 2, 1) := by decide +kernel
theorem dX10_drawn_56 : decode cX10_drawn 56 = .ok (.iload 10, 2) := by decide +kernel
theorem dX10_drawn_58 : decode cX10_drawn 58 = .ok (.ifCond .le 7, 3) := by decide +kernel
theorem dX10_drawn_61 : decode cX10_drawn 61 = .ok (.iconst 1, 1) := by decide +kernel
theorem dX10_drawn_62 : decode cX10_drawn 62 = .ok (.goto 4, 3) := by decide +kernel
theorem dX10_drawn_65 : decode cX10_drawn 65 = .ok (.iconst 0, 1) := by decide +kernel
theorem dX10_drawn_66 : decode cX10_drawn 66 = .ok (.iadd, 1) := by decide +kernel
theorem dX10_drawn_67 : decode cX10_drawn 67 = .ok (.istore_n 2, 1) := by decide +kernel
theorem dX10_drawn_68 : decode cX10_drawn 68 = .ok (.iinc 9 1, 3) := by decide +kernel
theorem dX10_drawn_71 : decode cX10_drawn 71 = .ok (.goto (-30), 3) := by decide +kernel
theorem dX10_drawn_74 : decode cX10_drawn 74 = .ok (.iinc 5 1, 3) := by decide +kernel
theorem dX10_drawn_77 : decode cX10_drawn 77 = .ok (.goto (-61), 3) := by decide +kernel
theorem dX10_drawn_80 : decode cX10_drawn 80 = .ok (.iload_n 2, 1) := by decide +kernel
theorem dX10_drawn_81 : decode cX10_drawn 81 = .ok (.ireturn, 1) := by decide +kernel
theorem dX10_draw_0 : decode cX10_draw 0 = .ok (.aload_n 0, 1) := by decide +kernel
theorem dX10_draw_1 : decode cX10_draw 1 = .ok (.aload_n 0, 1) := by decide +kernel
theorem dX10_draw_2 : decode cX10_draw 2 = .ok (.iload_n 1, 1) := by decide +kernel
theorem dX10_draw_3 : decode cX10_draw 3 = .ok (.iload_n 2, 1) := by decide +kernel
theorem dX10_draw_4 : decode cX10_draw 4 = .ok (.invokevirtual 153, 3) := by decide +kernel
theorem dX10_draw_7 : decode cX10_draw 7 = .ok (.iconst 1, 1) := by decide +kernel
theorem dX10_draw_8 : decode cX10_draw 8 = .ok (.invokevirtual 126, 3) := by decide +kernel
theorem dX10_draw_11 : decode cX10_draw 11 = .ok (.ifCond .ne 49, 3) := by decide +kernel
theorem dX10_draw_14 : decode cX10_draw 14 = .ok (.aload_n 0, 1) := by decide +kernel
theorem dX10_draw_15 : decode cX10_draw 15 = .ok (.iload_n 3, 1) := by decide +kernel
theorem dX10_draw_16 : decode cX10_draw 16 = .ok (.iconst 1, 1) := by decide +kernel
theorem dX10_draw_17 : decode cX10_draw 17 = .ok (.bipush 30, 2) := by decide +kernel
theorem dX10_draw_19 : decode cX10_draw 19 = .ok (.invokestatic 118, 3) := by decide +kernel
theorem dX10_draw_22 : decode cX10_draw 22 = .ok (.ifCond .ne 7, 3) := by decide +kernel
theorem dX10_draw_25 : decode cX10_draw 25 = .ok (.iconst 1, 1) := by decide +kernel
theorem dX10_draw_26 : decode cX10_draw 26 = .ok (.goto 4, 3) := by decide +kernel
theorem dX10_draw_29 : decode cX10_draw 29 = .ok (.iconst 0, 1) := by decide +kernel
theorem dX10_draw_30 : decode cX10_draw 30 = .ok (.iconst 2, 1) := by decide +kernel
theorem dX10_draw_31 : decode cX10_draw 31 = .ok (.invokevirtual 126, 3) := by decide +kernel
theorem dX10_draw_34 : decode cX10_draw 34 = .ok (.ifCond .ne 26, 3) := by decide +kernel
theorem dX10_draw_37 : decode cX10_draw 37 = .ok (.aload_n 0, 1) := by decide +kernel
theorem dX10_draw_38 : decode cX10_draw 38 = .ok (.aload_n 0, 1) := by decide +kernel
theorem dX10_draw_39 : decode cX10_draw 39 = .ok (.iload_n 1, 1) := by decide +kernel
theorem dX10_draw_40 : decode cX10_draw 40 = .ok (.bipush 98, 2) := by decide +kernel
theorem dX10_draw_42 : decode cX10_draw 42 = .ok (.invokevirtual 156, 3) := by decide +kernel
theorem dX10_draw_45 : decode cX10_draw 45 = .ok (.ifCond .ne 7, 3) := by decide +kernel
theorem dX10_draw_48 : decode cX10_draw 48 = .ok (.iconst 1, 1) := by decide +kernel
theorem dX10_draw_49 : decode cX10_draw 49 = .ok (.goto 4, 3) := by decide +kernel
theorem dX10_draw_52 : decode cX10_draw 52 = .ok (.iconst 0, 1) := by decide +kernel
theorem dX10_draw_53 : decode cX10_draw 53 = .ok (.iconst 3, 1) := by decide +kernel
theorem dX10_draw_54 : decode cX10_draw 54 = .ok (.invokevirtual 126, 3) := by decide +kernel
theorem dX10_draw_57 : decode cX10_draw 57 = .ok (.ifCond .eq 5, 3) := by decide +kernel
theorem dX10_draw_60 : decode cX10_draw 60 = .ok (.iconst 0, 1) := by decide +kernel
theorem dX10_draw_61 : decode cX10_draw 61 = .ok (.ireturn, 1) := by decide +kernel
theorem dX10_draw_62 : decode cX10_draw 62 = .ok (.aload_n 0, 1) := by decide +kernel
theorem dX10_draw_63 : decode cX10_draw 63 = .ok (.aload_n 0, 1) := by decide +kernel
theorem dX10_draw_64 : decode cX10_draw 64 = .ok (.iload_n 1, 1) := by decide +kernel
theorem dX10_draw_65 : decode cX10_draw 65 = .ok (.invokevirtual 176, 3) := by decide +kernel
theorem dX10_draw_68 : decode cX10_draw 68 = .ok (.bipush 12, 2) := by decide +kernel
theorem dX10_draw_70 : decode cX10_draw 70 = .ok (.if_icmp .ne 26, 3) := by decide +kernel
theorem dX10_draw_73 : decode cX10_draw 73 = .ok (.aload_n 0, 1) := by decide +kernel
theorem dX10_draw_74 : decode cX10_draw 74 = .ok (.getfield 68, 3) := by decide +kernel
theorem dX10_draw_77 : decode cX10_draw 77 = .ok (.iload_n 1, 1) := by decide +kernel
theorem dX10_draw_78 : decode cX10_draw 78 = .ok (.aaload, 1) := by decide +kernel
theorem dX10_draw_79 : decode cX10_draw 79 = .ok (.iload_n 2, 1) := by decide +kernel
theorem dX10_draw_80 : decode cX10_draw 80 = .ok (.bipush 10, 2) := by decide +kernel
theorem dX10_draw_82 : decode cX10_draw 82 = .ok (.idiv, 1) := by decide +kernel
theorem dX10_draw_83 : decode cX10_draw 83 = .ok (.aaload, 1) := by decide +kernel
theorem dX10_draw_84 : decode cX10_draw 84 = .ok (.iload_n 2, 1) := by decide +kernel
theorem dX10_draw_85 : decode cX10_draw 85 = .ok (.bipush 10, 2) := by decide +kernel
theorem dX10_draw_87 : decode cX10_draw 87 = .ok (.irem, 1) := by decide +kernel
theorem dX10_draw_88 : decode cX10_draw 88 = .ok (.iaload, 1) := by decide +kernel
theorem dX10_draw_89 : decode cX10_draw 89 = .ok (.ifCond .ne 7, 3) := by decide +kernel
theorem dX10_draw_92 : decode cX10_draw 92 = .ok (.iconst 1, 1) := by decide +kernel
theorem dX10_draw_93 : decode cX10_draw 93 = .ok (.goto 4, 3) := by decide +kernel
theorem dX10_draw_96 : decode cX10_draw 96 = .ok (.iconst 0, 1) := by decide +kernel
theorem dX10_draw_97 : decode cX10_draw 97 = .ok (.iconst 4, 1) := by decide +kernel
theorem dX10_draw_98 : decode cX10_draw 98 = .ok (.invokevirtual 126, 3) := by decide +kernel
theorem dX10_draw_101 : decode cX10_draw 101 = .ok (.ifCond .eq 5, 3) := by decide +kernel
theorem dX10_draw_104 : decode cX10_draw 104 = .ok (.iconst 0, 1) := by decide +kernel
theorem dX10_draw_105 : decode cX10_draw 105 = .ok (.ireturn, 1) := by decide +kernel
theorem dX10_draw_106 : decode cX10_draw 106 = .ok (.aload_n 0, 1) := by decide +kernel
theorem dX10_draw_107 : decode cX10_draw 107 = .ok (.getfield 68, 3) := by decide +kernel
theorem dX10_draw_110 : decode cX10_draw 110 = .ok (.iload_n 1, 1) := by decide +kernel
theorem dX10_draw_111 : decode cX10_draw 111 = .ok (.aaload, 1) := by decide +kernel
theorem dX10_draw_112 : decode cX10_draw 112 = .ok (.iload_n 2, 1) := by decide +kernel
theorem dX10_draw_113 : decode cX10_draw 113 = .ok (.bipush 10, 2) := by decide +kernel
theorem dX10_draw_115 : decode cX10_draw 115 = .ok (.idiv, 1) := by decide +kernel
theorem dX10_draw_116 : decode cX10_draw 116 = .ok (.aaload, 1) := by decide +kernel
theorem dX10_draw_117 : decode cX10_draw 117 = .ok (.iload_n 2, 1) := by decide +kernel
theorem dX10_draw_118 : decode cX10_draw 118 = .ok (.bipush 10, 2) := by decide +kernel
theorem dX10_draw_120 : decode cX10_draw 120 = .ok (.irem, 1) := by decide +kernel
theorem dX10_draw_121 : decode cX10_draw 121 = .ok (.iload_n 3, 1) := by decide +kernel
theorem dX10_draw_122 : decode cX10_draw 122 = .ok (.iastore, 1) := by decide +kernel
theorem dX10_draw_123 : decode cX10_draw 123 = .ok (.aload_n 0, 1) := by decide +kernel
theorem dX10_draw_124 : decode cX10_draw 124 = .ok (.iload_n 1, 1) := by decide +kernel
theorem dX10_draw_125 : decode cX10_draw 125 = .ok (.invokevirtual 176, 3) := by decide +kernel
theorem dX10_draw_128 : decode cX10_draw 128 = .ok (.ireturn, 1) := by decide +kernel
theorem dX10_placeFor_0 : decode cX10_placeFor 0 = .ok (.iload_n 2, 1) := by decide +kernel
theorem dX10_placeFor_1 : decode cX10_placeFor 1 = .ok (.istore 5, 2) := by decide +kernel
theorem dX10_placeFor_3 : decode cX10_placeFor 3 = .ok (.iload 5, 2) := by decide +kernel
theorem dX10_placeFor_5 : decode cX10_placeFor 5 = .ok (.iload_n 3, 1) := by decide +kernel
theorem dX10_placeFor_6 : decode cX10_placeFor 6 = .ok (.iadd, 1) := by decide +kernel
theorem dX10_placeFor_7 : decode cX10_placeFor 7 = .ok (.aload_n 0, 1) := by decide +kernel
theorem dX10_placeFor_8 : decode cX10_placeFor 8 = .ok (.getfield 89, 3) := by decide +kernel
theorem dX10_placeFor_11 : decode cX10_placeFor 11 = .ok (.iload_n 1, 1) := by decide +kernel
theorem dX10_placeFor_12 : decode cX10_placeFor 12 = .ok (.iaload, 1) := by decide +kernel
theorem dX10_placeFor_13 : decode cX10_placeFor 13 = .ok (.if_icmp .gt 93, 3) := by decide +kernel
theorem dX10_placeFor_16 : decode cX10_placeFor 16 = .ok (.iload 5, 2) := by decide +kernel
theorem dX10_placeFor_18 : decode cX10_placeFor 18 = .ok (.aload_n 0, 1) := by decide +kernel
theorem dX10_placeFor_19 : decode cX10_placeFor 19 = .ok (.getfield 92, 3) := by decide +kernel
theorem dX10_placeFor_22 : decode cX10_placeFor 22 = .ok (.iload_n 1, 1) := by decide +kernel
theorem dX10_placeFor_23 : decode cX10_placeFor 23 = .ok (.iaload, 1) := by decide +kernel
theorem dX10_placeFor_24 : decode cX10_placeFor 24 = .ok (.irem, 1) := by decide +kernel
theorem dX10_placeFor_25 : decode cX10_placeFor 25 = .ok (.iload 4, 2) := by decide +kernel
theorem dX10_placeFor_27 : decode cX10_placeFor 27 = .ok (.if_icmp .ne 7, 3) := by decide +kernel
theorem dX10_placeFor_30 : decode cX10_placeFor 30 = .ok (.iconst 1, 1) := by decide +kernel
theorem dX10_placeFor_31 : decode cX10_placeFor 31 = .ok (.goto 4, 3) := by decide +kernel
theorem dX10_placeFor_34 : decode cX10_placeFor 34 = .ok (.iconst 0, 1) := by decide +kernel
theorem dX10_placeFor_35 : decode cX10_placeFor 35 = .ok (.istore 6, 2) := by decide +kernel
theorem dX10_placeFor_37 : decode cX10_placeFor 37 = .ok (.iconst 0, 1) := by decide +kernel
theorem dX10_placeFor_38 : decode cX10_placeFor 38 = .ok (.istore 7, 2) := by decide +kernel
theorem dX10_placeFor_40 : decode cX10_placeFor 40 = .ok (.iload 7, 2) := by decide +kernel
theorem dX10_placeFor_42 : decode cX10_placeFor 42 = .ok (.aload_n 0, 1) := by decide +kernel
theorem dX10_placeFor_43 : decode cX10_placeFor 43 = .ok (.getfield 98, 3) := by decide +kernel
theorem dX10_placeFor_46 : decode cX10_placeFor 46 = .ok (.iload_n 1, 1) := by decide +kernel
theorem dX10_placeFor_47 : decode cX10_placeFor 47 = .ok (.iaload, 1) := by decide +kernel
theorem dX10_placeFor_48 : decode cX10_placeFor 48 = .ok (.if_icmp .ge 44, 3) := by decide +kernel
theorem dX10_placeFor_51 : decode cX10_placeFor 51 = .ok (.iload 6, 2) := by decide +kernel
theorem dX10_placeFor_53 : decode cX10_placeFor 53 = .ok (.ifCond .eq 39, 3) := by decide +kernel
theorem dX10_placeFor_56 : decode cX10_placeFor 56 = .ok (.aload_n 0, 1) := by decide +kernel
theorem dX10_placeFor_57 : decode cX10_placeFor 57 = .ok (.getfield 101, 3) := by decide +kernel
theorem dX10_placeFor_60 : decode cX10_placeFor 60 = .ok (.iload_n 1, 1) := by decide +kernel
theorem dX10_placeFor_61 : decode cX10_placeFor 61 = .ok (.aaload, 1) := by decide +kernel
theorem dX10_placeFor_62 : decode cX10_placeFor 62 = .ok (.iload 7, 2) := by decide +kernel
theorem dX10_placeFor_64 : decode cX10_placeFor 64 = .ok (.iaload, 1) := by decide +kernel
theorem dX10_placeFor_65 : decode cX10_placeFor 65 = .ok (.iload 5, 2) := by decide +kernel
theorem dX10_placeFor_67 : decode cX10_placeFor 67 = .ok (.iload 5, 2) := by decide +kernel
theorem dX10_placeFor_69 : decode cX10_placeFor 69 = .ok (.iload_n 3, 1) := by decide +kernel
theorem dX10_placeFor_70 : decode cX10_placeFor 70 = .ok (.iadd, 1) := by decide +kernel
theorem dX10_placeFor_71 : decode cX10_placeFor 71 = .ok (.iconst 1, 1) := by decide +kernel
theorem dX10_placeFor_72 : decode cX10_placeFor 72 = .ok (.isub, 1) := by decide +kernel
theorem dX10_placeFor_73 : decode cX10_placeFor 73 = .ok (.invokestatic 118, 3) := by decide +kernel
theorem dX10_placeFor_76 : decode cX10_placeFor 76 = .ok (.ifCond .ne 7, 3) := by decide +kernel
theorem dX10_placeFor_79 : decode cX10_placeFor 79 = .ok (.iconst 1, 1) := by decide +kernel
theorem dX10_placeFor_80 : decode cX10_placeFor 80 = .ok (.goto 4, 3) := by decide +kernel
theorem dX10_placeFor_83 : decode cX10_placeFor 83 = .ok (.iconst 0, 1) := by decide +kernel
theorem dX10_placeFor_84 : decode cX10_placeFor 84 = .ok (.istore 6, 2) := by decide +kernel
theorem dX10_placeFor_86 : decode cX10_placeFor 86 = .ok (.iinc 7 1, 3) := by decide +kernel
theorem dX10_placeFor_89 : decode cX10_placeFor 89 = .ok (.goto (-49), 3) := by decide +kernel
theorem dX10_placeFor_92 : decode cX10_placeFor 92 = .ok (.iload 6, 2) := by decide +kernel
theorem dX10_placeFor_94 : decode cX10_placeFor 94 = .ok (.ifCond .eq 6, 3) := by decide +kernel
theorem dX10_placeFor_97 : decode cX10_placeFor 97 = .ok (.iload 5, 2) := by decide +kernel
theorem dX10_placeFor_99 : decode cX10_placeFor 99 = .ok (.ireturn, 1) := by decide +kernel
theorem dX10_placeFor_100 : decode cX10_placeFor 100 = .ok (.iinc 5 1, 3) := by decide +kernel
theorem dX10_placeFor_103 : decode cX10_placeFor 103 = .ok (.goto (-100), 3) := by decide +kernel
theorem dX10_placeFor_106 : decode cX10_placeFor 106 = .ok (.iconst (-1), 1) := by decide +kernel
theorem dX10_placeFor_107 : decode cX10_placeFor 107 = .ok (.ireturn, 1) := by decide +kernel
theorem dX10_cover_0 : decode cX10_cover 0 = .ok (.aload_n 0, 1) := by decide +kernel
theorem dX10_cover_1 : decode cX10_cover 1 = .ok (.aload_n 0, 1) := by decide +kernel
theorem dX10_cover_2 : decode cX10_cover 2 = .ok (.iload_n 1, 1) := by decide +kernel
theorem dX10_cover_3 : decode cX10_cover 3 = .ok (.invokevirtual 122, 3) := by decide +kernel
theorem dX10_cover_6 : decode cX10_cover 6 = .ok (.ifCond .ne 17, 3) := by decide +kernel
theorem dX10_cover_9 : decode cX10_cover 9 = .ok (.iload_n 2, 1) := by decide +kernel
theorem dX10_cover_10 : decode cX10_cover 10 = .ok (.iconst 0, 1) := by decide +kernel
theorem dX10_cover_11 : decode cX10_cover 11 = .ok (.aload_n 0, 1) := by decide +kernel
theorem dX10_cover_12 : decode cX10_cover 12 = .ok (.getfield 179, 3) := by decide +kernel
theorem dX10_cover_15 : decode cX10_cover 15 = .ok (.iconst 1, 1) := by decide +kernel
theorem dX10_cover_16 : decode cX10_cover 16 = .ok (.isub, 1) := by decide +kernel
theorem dX10_cover_17 : decode cX10_cover 17 = .ok (.invokestatic 118, 3) := by decide +kernel
theorem dX10_cover_20 : decode cX10_cover 20 = .ok (.ifCond .ne 7, 3) := by decide +kernel
theorem dX10_cover_23 : decode cX10_cover 23 = .ok (.iconst 1, 1) := by decide +kernel
theorem dX10_cover_24 : decode cX10_cover 24 = .ok (.goto 4, 3) := by decide +kernel
theorem dX10_cover_27 : decode cX10_cover 27 = .ok (.iconst 0, 1) := by decide +kernel
theorem dX10_cover_28 : decode cX10_cover 28 = .ok (.iconst 1, 1) := by decide +kernel
theorem dX10_cover_29 : decode cX10_cover 29 = .ok (.invokevirtual 126, 3) := by decide +kernel
theorem dX10_cover_32 : decode cX10_cover 32 = .ok (.ifCond .ne 55, 3) := by decide +kernel
theorem dX10_cover_35 : decode cX10_cover 35 = .ok (.aload_n 0, 1) := by decide +kernel
theorem dX10_cover_36 : decode cX10_cover 36 = .ok (.iload_n 3, 1) := by decide +kernel
theorem dX10_cover_37 : decode cX10_cover 37 = .ok (.iconst 0, 1) := by decide +kernel
theorem dX10_cover_38 : decode cX10_cover 38 = .ok (.aload_n 0, 1) := by decide +kernel
theorem dX10_cover_39 : decode cX10_cover 39 = .ok (.getfield 92, 3) := by decide +kernel
theorem dX10_cover_42 : decode cX10_cover 42 = .ok (.iload_n 2, 1) := by decide +kernel
theorem dX10_cover_43 : decode cX10_cover 43 = .ok (.iaload, 1) := by decide +kernel
theorem dX10_cover_44 : decode cX10_cover 44 = .ok (.iconst 1, 1) := by decide +kernel
theorem dX10_cover_45 : decode cX10_cover 45 = .ok (.isub, 1) := by decide +kernel
theorem dX10_cover_46 : decode cX10_cover 46 = .ok (.invokestatic 118, 3) := by decide +kernel
theorem dX10_cover_49 : decode cX10_cover 49 = .ok (.ifCond .ne 7, 3) := by decide +kernel
theorem dX10_cover_52 : decode cX10_cover 52 = .ok (.iconst 1, 1) := by decide +kernel
theorem dX10_cover_53 : decode cX10_cover 53 = .ok (.goto 4, 3) := by decide +kernel
theorem dX10_cover_56 : decode cX10_cover 56 = .ok (.iconst 0, 1) := by decide +kernel
theorem dX10_cover_57 : decode cX10_cover 57 = .ok (.iconst 2, 1) := by decide +kernel
theorem dX10_cover_58 : decode cX10_cover 58 = .ok (.invokevirtual 126, 3) := by decide +kernel
theorem dX10_cover_61 : decode cX10_cover 61 = .ok (.ifCond .ne 26, 3) := by decide +kernel
theorem dX10_cover_64 : decode cX10_cover 64 = .ok (.aload_n 0, 1) := by decide +kernel
theorem dX10_cover_65 : decode cX10_cover 65 = .ok (.aload_n 0, 1) := by decide +kernel
theorem dX10_cover_66 : decode cX10_cover 66 = .ok (.iload_n 1, 1) := by decide +kernel
theorem dX10_cover_67 : decode cX10_cover 67 = .ok (.bipush 99, 2) := by decide +kernel
theorem dX10_cover_69 : decode cX10_cover 69 = .ok (.invokevirtual 137, 3) := by decide +kernel
theorem dX10_cover_72 : decode cX10_cover 72 = .ok (.ifCond .ne 7, 3) := by decide +kernel
theorem dX10_cover_75 : decode cX10_cover 75 = .ok (.iconst 1, 1) := by decide +kernel
theorem dX10_cover_76 : decode cX10_cover 76 = .ok (.goto 4, 3) := by decide +kernel
theorem dX10_cover_79 : decode cX10_cover 79 = .ok (.iconst 0, 1) := by decide +kernel
theorem dX10_cover_80 : decode cX10_cover 80 = .ok (.iconst 3, 1) := by decide +kernel
theorem dX10_cover_81 : decode cX10_cover 81 = .ok (.invokevirtual 126, 3) := by decide +kernel
theorem dX10_cover_84 : decode cX10_cover 84 = .ok (.ifCond .eq 5, 3) := by decide +kernel
theorem dX10_cover_87 : decode cX10_cover 87 = .ok (.iconst 0, 1) := by decide +kernel
theorem dX10_cover_88 : decode cX10_cover 88 = .ok (.ireturn, 1) := by decide +kernel
theorem dX10_cover_89 : decode cX10_cover 89 = .ok (.iconst 0, 1) := by decide +kernel
theorem dX10_cover_90 : decode cX10_cover 90 = .ok (.istore 4, 2) := by decide +kernel
theorem dX10_cover_92 : decode cX10_cover 92 = .ok (.iconst 0, 1) := by decide +kernel
theorem dX10_cover_93 : decode cX10_cover 93 = .ok (.istore 5, 2) := by decide +kernel
theorem dX10_cover_95 : decode cX10_cover 95 = .ok (.iload 5, 2) := by decide +kernel
theorem dX10_cover_97 : decode cX10_cover 97 = .ok (.aload_n 0, 1) := by decide +kernel
theorem dX10_cover_98 : decode cX10_cover 98 = .ok (.getfield 9, 3) := by decide +kernel
theorem dX10_cover_101 : decode cX10_cover 101 = .ok (.iload_n 1, 1) := by decide +kernel
theorem dX10_cover_102 : decode cX10_cover 102 = .ok (.iaload, 1) := by decide +kernel
theorem dX10_cover_103 : decode cX10_cover 103 = .ok (.if_icmp .ge 45, 3) := by decide +kernel
theorem dX10_cover_106 : decode cX10_cover 106 = .ok (.iconst 0, 1) := by decide +kernel
theorem dX10_cover_107 : decode cX10_cover 107 = .ok (.istore 6, 2) := by decide +kernel
theorem dX10_cover_109 : decode cX10_cover 109 = .ok (.iload 6, 2) := by decide +kernel
theorem dX10_cover_111 : decode cX10_cover 111 = .ok (.aload_n 0, 1) := by decide +kernel
theorem dX10_cover_112 : decode cX10_cover 112 = .ok (.getfield 13, 3) := by decide +kernel
theorem dX10_cover_115 : decode cX10_cover 115 = .ok (.iload_n 1, 1) := by decide +kernel
theorem dX10_cover_116 : decode cX10_cover 116 = .ok (.iaload, 1) := by decide +kernel
theorem dX10_cover_117 : decode cX10_cover 117 = .ok (.if_icmp .ge 25, 3) := by decide +kernel
theorem dX10_cover_120 : decode cX10_cover 120 = .ok (.iload 4, 2) := by decide +kernel
theorem dX10_cover_122 : decode cX10_cover 122 = .ok (.aload_n 0, 1) := by decide +kernel
theorem dX10_cover_123 : decode cX10_cover 123 = .ok (.iload_n 1, 1) := by decide +kernel
theorem dX10_cover_124 : decode cX10_cover 124 = .ok (.iload 5, 2) := by decide +kernel
theorem dX10_cover_126 : decode cX10_cover 126 = .ok (.iload 6, 2) := by decide +kernel
theorem dX10_cover_128 : decode cX10_cover 128 = .ok (.invokevirtual 182, 3) := by decide +kernel
theorem dX10_cover_131 : decode cX10_cover 131 = .ok (.invokestatic 185, 3) := by decide +kernel
theorem dX10_cover_134 : decode cX10_cover 134 = .ok (.istore 4, 2) := by decide +kernel
theorem dX10_cover_136 : decode cX10_cover 136 = .ok (.iinc 6 1, 3) := by decide +kernel
theorem dX10_cover_139 : decode cX10_cover 139 = .ok (.goto (-30), 3) := by decide +kernel
theorem dX10_cover_142 : decode cX10_cover 142 = .ok (.iinc 5 1, 3) := by decide +kernel
theorem dX10_cover_145 : decode cX10_cover 145 = .ok (.goto (-50), 3) := by decide +kernel
theorem dX10_cover_148 : decode cX10_cover 148 = .ok (.iload 4, 2) := by decide +kernel
theorem dX10_cover_150 : decode cX10_cover 150 = .ok (.bipush 10, 2) := by decide +kernel
theorem dX10_cover_152 : decode cX10_cover 152 = .ok (.aload_n 0, 1) := by decide +kernel
theorem dX10_cover_153 : decode cX10_cover 153 = .ok (.getfield 13, 3) := by decide +kernel
theorem dX10_cover_156 : decode cX10_cover 156 = .ok (.iload_n 1, 1) := by decide +kernel
theorem dX10_cover_157 : decode cX10_cover 157 = .ok (.iaload, 1) := by decide +kernel
theorem dX10_cover_158 : decode cX10_cover 158 = .ok (.imul, 1) := by decide +kernel
theorem dX10_cover_159 : decode cX10_cover 159 = .ok (.iadd, 1) := by decide +kernel
theorem dX10_cover_160 : decode cX10_cover 160 = .ok (.istore 4, 2) := by decide +kernel
theorem dX10_cover_162 : decode cX10_cover 162 = .ok (.aload_n 0, 1) := by decide +kernel
theorem dX10_cover_163 : decode cX10_cover 163 = .ok (.getfield 95, 3) := by decide +kernel
theorem dX10_cover_166 : decode cX10_cover 166 = .ok (.iload_n 2, 1) := by decide +kernel
theorem dX10_cover_167 : decode cX10_cover 167 = .ok (.iaload, 1) := by decide +kernel
theorem dX10_cover_168 : decode cX10_cover 168 = .ok (.istore 5, 2) := by decide +kernel
theorem dX10_cover_170 : decode cX10_cover 170 = .ok (.iconst 0, 1) := by decide +kernel
theorem dX10_cover_171 : decode cX10_cover 171 = .ok (.istore 6, 2) := by decide +kernel
theorem dX10_cover_173 : decode cX10_cover 173 = .ok (.iload 6, 2) := by decide +kernel
theorem dX10_cover_175 : decode cX10_cover 175 = .ok (.aload_n 0, 1) := by decide +kernel
theorem dX10_cover_176 : decode cX10_cover 176 = .ok (.getfield 9, 3) := by decide +kernel
theorem dX10_cover_179 : decode cX10_cover 179 = .ok (.iload_n 1, 1) := by decide +kernel
theorem dX10_cover_180 : decode cX10_cover 180 = .ok (.iaload, 1) := by decide +kernel
theorem dX10_cover_181 : decode cX10_cover 181 = .ok (.if_icmp .ge 59, 3) := by decide +kernel
theorem dX10_cover_184 : decode cX10_cover 184 = .ok (.aload_n 0, 1) := by decide +kernel
theorem dX10_cover_185 : decode cX10_cover 185 = .ok (.iload_n 2, 1) := by decide +kernel
theorem dX10_cover_186 : decode cX10_cover 186 = .ok (.iload 5, 2) := by decide +kernel
theorem dX10_cover_188 : decode cX10_cover 188 = .ok (.iload 4, 2) := by decide +kernel
theorem dX10_cover_190 : decode cX10_cover 190 = .ok (.iload_n 3, 1) := by decide +kernel
theorem dX10_cover_191 : decode cX10_cover 191 = .ok (.invokevirtual 189, 3) := by decide +kernel
theorem dX10_cover_194 : decode cX10_cover 194 = .ok (.istore 7, 2) := by decide +kernel
theorem dX10_cover_196 : decode cX10_cover 196 = .ok (.aload_n 0, 1) := by decide +kernel
theorem dX10_cover_197 : decode cX10_cover 197 = .ok (.iload 7, 2) := by decide +kernel
theorem dX10_cover_199 : decode cX10_cover 199 = .ok (.ifCond .ge 7, 3) := by decide +kernel
theorem dX10_cover_202 : decode cX10_cover 202 = .ok (.iconst 1, 1) := by decide +kernel
theorem dX10_cover_203 : decode cX10_cover 203 = .ok (.goto 4, 3) := by decide +kernel
theorem dX10_cover_206 : decode cX10_cover 206 = .ok (.iconst 0, 1) := by decide +kernel
theorem dX10_cover_207 : decode cX10_cover 207 = .ok (.iconst 4, 1) := by decide +kernel
theorem dX10_cover_208 : decode cX10_cover 208 = .ok (.invokevirtual 126, 3) := by decide +kernel
theorem dX10_cover_211 : decode cX10_cover 211 = .ok (.ifCond .eq 5, 3) := by decide +kernel
theorem dX10_cover_214 : decode cX10_cover 214 = .ok (.iconst 0, 1) := by decide +kernel
theorem dX10_cover_215 : decode cX10_cover 215 = .ok (.ireturn, 1) := by decide +kernel
theorem dX10_cover_216 : decode cX10_cover 216 = .ok (.aload_n 0, 1) := by decide +kernel
theorem dX10_cover_217 : decode cX10_cover 217 = .ok (.getfield 71, 3) := by decide +kernel
theorem dX10_cover_220 : decode cX10_cover 220 = .ok (.iload_n 1, 1) := by decide +kernel
theorem dX10_cover_221 : decode cX10_cover 221 = .ok (.aaload, 1) := by decide +kernel
theorem dX10_cover_222 : decode cX10_cover 222 = .ok (.iload 6, 2) := by decide +kernel
theorem dX10_cover_224 : decode cX10_cover 224 = .ok (.iload 7, 2) := by decide +kernel
theorem dX10_cover_226 : decode cX10_cover 226 = .ok (.iastore, 1) := by decide +kernel
theorem dX10_cover_227 : decode cX10_cover 227 = .ok (.iload 7, 2) := by decide +kernel
theorem dX10_cover_229 : decode cX10_cover 229 = .ok (.iload 4, 2) := by decide +kernel
theorem dX10_cover_231 : decode cX10_cover 231 = .ok (.iadd, 1) := by decide +kernel
theorem dX10_cover_232 : decode cX10_cover 232 = .ok (.istore 5, 2) := by decide +kernel
theorem dX10_cover_234 : decode cX10_cover 234 = .ok (.iinc 6 1, 3) := by decide +kernel
theorem dX10_cover_237 : decode cX10_cover 237 = .ok (.goto (-64), 3) := by decide +kernel
theorem dX10_cover_240 : decode cX10_cover 240 = .ok (.aload_n 0, 1) := by decide +kernel
theorem dX10_cover_241 : decode cX10_cover 241 = .ok (.getfield 95, 3) := by decide +kernel
theorem dX10_cover_244 : decode cX10_cover 244 = .ok (.iload_n 2, 1) := by decide +kernel
theorem dX10_cover_245 : decode cX10_cover 245 = .ok (.iload 5, 2) := by decide +kernel
theorem dX10_cover_247 : decode cX10_cover 247 = .ok (.iastore, 1) := by decide +kernel
theorem dX10_cover_248 : decode cX10_cover 248 = .ok (.aload_n 0, 1) := by decide +kernel
theorem dX10_cover_249 : decode cX10_cover 249 = .ok (.getfield 74, 3) := by decide +kernel
theorem dX10_cover_252 : decode cX10_cover 252 = .ok (.iload_n 1, 1) := by decide +kernel
theorem dX10_cover_253 : decode cX10_cover 253 = .ok (.iload 4, 2) := by decide +kernel
theorem dX10_cover_255 : decode cX10_cover 255 = .ok (.iastore, 1) := by decide +kernel
theorem dX10_cover_256 : decode cX10_cover 256 = .ok (.aload_n 0, 1) := by decide +kernel
theorem dX10_cover_257 : decode cX10_cover 257 = .ok (.getfield 77, 3) := by decide +kernel
theorem dX10_cover_260 : decode cX10_cover 260 = .ok (.iload_n 1, 1) := by decide +kernel
theorem dX10_cover_261 : decode cX10_cover 261 = .ok (.iconst 0, 1) := by decide +kernel
theorem dX10_cover_262 : decode cX10_cover 262 = .ok (.iastore, 1) := by decide +kernel
theorem dX10_cover_263 : decode cX10_cover 263 = .ok (.aload_n 0, 1) := by decide +kernel
theorem dX10_cover_264 : decode cX10_cover 264 = .ok (.getfield 80, 3) := by decide +kernel
theorem dX10_cover_267 : decode cX10_cover 267 = .ok (.iload_n 1, 1) := by decide +kernel
theorem dX10_cover_268 : decode cX10_cover 268 = .ok (.aload_n 0, 1) := by decide +kernel
theorem dX10_cover_269 : decode cX10_cover 269 = .ok (.iload_n 1, 1) := by decide +kernel
theorem dX10_cover_270 : decode cX10_cover 270 = .ok (.invokevirtual 193, 3) := by decide +kernel
theorem dX10_cover_273 : decode cX10_cover 273 = .ok (.iastore, 1) := by decide +kernel
theorem dX10_cover_274 : decode cX10_cover 274 = .ok (.aload_n 0, 1) := by decide +kernel
theorem dX10_cover_275 : decode cX10_cover 275 = .ok (.iload_n 1, 1) := by decide +kernel
theorem dX10_cover_276 : decode cX10_cover 276 = .ok (.bipush 99, 2) := by decide +kernel
theorem dX10_cover_278 : decode cX10_cover 278 = .ok (.invokevirtual 141, 3) := by decide +kernel
theorem dX10_cover_281 : decode cX10_cover 281 = .ok (.istore 6, 2) := by decide +kernel
theorem dX10_cover_283 : decode cX10_cover 283 = .ok (.iload 5, 2) := by decide +kernel
theorem dX10_cover_285 : decode cX10_cover 285 = .ok (.ireturn, 1) := by decide +kernel
theorem dX10_sign_0 : decode cX10_sign 0 = .ok (.aload_n 0, 1) := by decide +kernel
theorem dX10_sign_1 : decode cX10_sign 1 = .ok (.aload_n 0, 1) := by decide +kernel
theorem dX10_sign_2 : decode cX10_sign 2 = .ok (.iload_n 1, 1) := by decide +kernel
theorem dX10_sign_3 : decode cX10_sign 3 = .ok (.invokevirtual 122, 3) := by decide +kernel
theorem dX10_sign_6 : decode cX10_sign 6 = .ok (.iconst 1, 1) := by decide +kernel
theorem dX10_sign_7 : decode cX10_sign 7 = .ok (.invokevirtual 126, 3) := by decide +kernel
theorem dX10_sign_10 : decode cX10_sign 10 = .ok (.ifCond .ne 16, 3) := by decide +kernel
theorem dX10_sign_13 : decode cX10_sign 13 = .ok (.aload_n 0, 1) := by decide +kernel
theorem dX10_sign_14 : decode cX10_sign 14 = .ok (.aload_n 0, 1) := by decide +kernel
theorem dX10_sign_15 : decode cX10_sign 15 = .ok (.iload_n 1, 1) := by decide +kernel
theorem dX10_sign_16 : decode cX10_sign 16 = .ok (.invokevirtual 134, 3) := by decide +kernel
theorem dX10_sign_19 : decode cX10_sign 19 = .ok (.iconst 2, 1) := by decide +kernel
theorem dX10_sign_20 : decode cX10_sign 20 = .ok (.invokevirtual 126, 3) := by decide +kernel
theorem dX10_sign_23 : decode cX10_sign 23 = .ok (.ifCond .eq 5, 3) := by decide +kernel
theorem dX10_sign_26 : decode cX10_sign 26 = .ok (.iconst 0, 1) := by decide +kernel
theorem dX10_sign_27 : decode cX10_sign 27 = .ok (.ireturn, 1) := by decide +kernel
theorem dX10_sign_28 : decode cX10_sign 28 = .ok (.aload_n 0, 1) := by decide +kernel
theorem dX10_sign_29 : decode cX10_sign 29 = .ok (.getfield 26, 3) := by decide +kernel
theorem dX10_sign_32 : decode cX10_sign 32 = .ok (.iload_n 1, 1) := by decide +kernel
theorem dX10_sign_33 : decode cX10_sign 33 = .ok (.aaload, 1) := by decide +kernel
theorem dX10_sign_34 : decode cX10_sign 34 = .ok (.aload_n 0, 1) := by decide +kernel
theorem dX10_sign_35 : decode cX10_sign 35 = .ok (.getfield 16, 3) := by decide +kernel
theorem dX10_sign_38 : decode cX10_sign 38 = .ok (.iload_n 1, 1) := by decide +kernel
theorem dX10_sign_39 : decode cX10_sign 39 = .ok (.iaload, 1) := by decide +kernel
theorem dX10_sign_40 : decode cX10_sign 40 = .ok (.iconst 1, 1) := by decide +kernel
theorem dX10_sign_41 : decode cX10_sign 41 = .ok (.isub, 1) := by decide +kernel
theorem dX10_sign_42 : decode cX10_sign 42 = .ok (.iconst 1, 1) := by decide +kernel
theorem dX10_sign_43 : decode cX10_sign 43 = .ok (.bastore, 1) := by decide +kernel
theorem dX10_sign_44 : decode cX10_sign 44 = .ok (.aload_n 0, 1) := by decide +kernel
theorem dX10_sign_45 : decode cX10_sign 45 = .ok (.getfield 16, 3) := by decide +kernel
theorem dX10_sign_48 : decode cX10_sign 48 = .ok (.iload_n 1, 1) := by decide +kernel
theorem dX10_sign_49 : decode cX10_sign 49 = .ok (.iaload, 1) := by decide +kernel
theorem dX10_sign_50 : decode cX10_sign 50 = .ok (.ireturn, 1) := by decide +kernel
theorem dX10_open_0 : decode cX10_open 0 = .ok (.aload_n 0, 1) := by decide +kernel
theorem dX10_open_1 : decode cX10_open 1 = .ok (.aload_n 0, 1) := by decide +kernel
theorem dX10_open_2 : decode cX10_open 2 = .ok (.iload_n 1, 1) := by decide +kernel
theorem dX10_open_3 : decode cX10_open 3 = .ok (.invokevirtual 122, 3) := by decide +kernel
theorem dX10_open_6 : decode cX10_open 6 = .ok (.iconst 1, 1) := by decide +kernel
theorem dX10_open_7 : decode cX10_open 7 = .ok (.invokevirtual 126, 3) := by decide +kernel
theorem dX10_open_10 : decode cX10_open 10 = .ok (.ifCond .ne 30, 3) := by decide +kernel
theorem dX10_open_13 : decode cX10_open 13 = .ok (.aload_n 0, 1) := by decide +kernel
theorem dX10_open_14 : decode cX10_open 14 = .ok (.iload_n 2, 1) := by decide +kernel
theorem dX10_open_15 : decode cX10_open 15 = .ok (.iconst 0, 1) := by decide +kernel
theorem dX10_open_16 : decode cX10_open 16 = .ok (.aload_n 0, 1) := by decide +kernel
theorem dX10_open_17 : decode cX10_open 17 = .ok (.getfield 16, 3) := by decide +kernel
theorem dX10_open_20 : decode cX10_open 20 = .ok (.iload_n 1, 1) := by decide +kernel
theorem dX10_open_21 : decode cX10_open 21 = .ok (.iaload, 1) := by decide +kernel
theorem dX10_open_22 : decode cX10_open 22 = .ok (.invokestatic 118, 3) := by decide +kernel
theorem dX10_open_25 : decode cX10_open 25 = .ok (.ifCond .ne 7, 3) := by decide +kernel
theorem dX10_open_28 : decode cX10_open 28 = .ok (.iconst 1, 1) := by decide +kernel
theorem dX10_open_29 : decode cX10_open 29 = .ok (.goto 4, 3) := by decide +kernel
theorem dX10_open_32 : decode cX10_open 32 = .ok (.iconst 0, 1) := by decide +kernel
theorem dX10_open_33 : decode cX10_open 33 = .ok (.iconst 2, 1) := by decide +kernel
theorem dX10_open_34 : decode cX10_open 34 = .ok (.invokevirtual 126, 3) := by decide +kernel
theorem dX10_open_37 : decode cX10_open 37 = .ok (.ifCond .eq 5, 3) := by decide +kernel
theorem dX10_open_40 : decode cX10_open 40 = .ok (.iconst 0, 1) := by decide +kernel
theorem dX10_open_41 : decode cX10_open 41 = .ok (.ireturn, 1) := by decide +kernel
theorem dX10_open_42 : decode cX10_open 42 = .ok (.aload_n 0, 1) := by decide +kernel
theorem dX10_open_43 : decode cX10_open 43 = .ok (.getfield 16, 3) := by decide +kernel
theorem dX10_open_46 : decode cX10_open 46 = .ok (.iload_n 1, 1) := by decide +kernel
theorem dX10_open_47 : decode cX10_open 47 = .ok (.iaload, 1) := by decide +kernel
theorem dX10_open_48 : decode cX10_open 48 = .ok (.iload_n 2, 1) := by decide +kernel
theorem dX10_open_49 : decode cX10_open 49 = .ok (.isub, 1) := by decide +kernel
theorem dX10_open_50 : decode cX10_open 50 = .ok (.istore_n 3, 1) := by decide +kernel
theorem dX10_open_51 : decode cX10_open 51 = .ok (.aload_n 0, 1) := by decide +kernel
theorem dX10_open_52 : decode cX10_open 52 = .ok (.getfield 16, 3) := by decide +kernel
theorem dX10_open_55 : decode cX10_open 55 = .ok (.iload_n 1, 1) := by decide +kernel
theorem dX10_open_56 : decode cX10_open 56 = .ok (.iaload, 1) := by decide +kernel
theorem dX10_open_57 : decode cX10_open 57 = .ok (.iload_n 2, 1) := by decide +kernel
theorem dX10_open_58 : decode cX10_open 58 = .ok (.if_icmp .le 108, 3) := by decide +kernel
theorem dX10_open_61 : decode cX10_open 61 = .ok (.aload_n 0, 1) := by decide +kernel
theorem dX10_open_62 : decode cX10_open 62 = .ok (.iload_n 1, 1) := by decide +kernel
theorem dX10_open_63 : decode cX10_open 63 = .ok (.invokevirtual 130, 3) := by decide +kernel
theorem dX10_open_66 : decode cX10_open 66 = .ok (.istore 4, 2) := by decide +kernel
theorem dX10_open_68 : decode cX10_open 68 = .ok (.aload_n 0, 1) := by decide +kernel
theorem dX10_open_69 : decode cX10_open 69 = .ok (.getfield 48, 3) := by decide +kernel
theorem dX10_open_72 : decode cX10_open 72 = .ok (.iload_n 1, 1) := by decide +kernel
theorem dX10_open_73 : decode cX10_open 73 = .ok (.dup2, 1) := by decide +kernel
theorem dX10_open_74 : decode cX10_open 74 = .ok (.iaload, 1) := by decide +kernel
theorem dX10_open_75 : decode cX10_open 75 = .ok (.iload 4, 2) := by decide +kernel
theorem dX10_open_77 : decode cX10_open 77 = .ok (.bipush 108, 2) := by decide +kernel
theorem dX10_open_79 : decode cX10_open 79 = .ok (.if_icmp .ne 7, 3) := by decide +kernel
theorem dX10_open_82 : decode cX10_open 82 = .ok (.iconst 1, 1) := by decide +kernel
theorem dX10_open_83 : decode cX10_open 83 = .ok (.goto 4, 3) := by decide +kernel
theorem dX10_open_86 : decode cX10_open 86 = .ok (.iconst 0, 1) := by decide +kernel
theorem dX10_open_87 : decode cX10_open 87 = .ok (.isub, 1) := by decide +kernel
theorem dX10_open_88 : decode cX10_open 88 = .ok (.iastore, 1) := by decide +kernel
theorem dX10_open_89 : decode cX10_open 89 = .ok (.iload 4, 2) := by decide +kernel
theorem dX10_open_91 : decode cX10_open 91 = .ok (.bipush 116, 2) := by decide +kernel
theorem dX10_open_93 : decode cX10_open 93 = .ok (.if_icmp .ne 8, 3) := by decide +kernel
theorem dX10_open_96 : decode cX10_open 96 = .ok (.aload_n 0, 1) := by decide +kernel
theorem dX10_open_97 : decode cX10_open 97 = .ok (.iload_n 1, 1) := by decide +kernel
theorem dX10_open_98 : decode cX10_open 98 = .ok (.invokevirtual 149, 3) := by decide +kernel
theorem dX10_open_101 : decode cX10_open 101 = .ok (.iconst 0, 1) := by decide +kernel
theorem dX10_open_102 : decode cX10_open 102 = .ok (.istore 5, 2) := by decide +kernel
theorem dX10_open_104 : decode cX10_open 104 = .ok (.iload 5, 2) := by decide +kernel
theorem dX10_open_106 : decode cX10_open 106 = .ok (.bipush 6, 2) := by decide +kernel
theorem dX10_open_108 : decode cX10_open 108 = .ok (.if_icmp .ge 45, 3) := by decide +kernel
theorem dX10_open_111 : decode cX10_open 111 = .ok (.iload 4, 2) := by decide +kernel
theorem dX10_open_113 : decode cX10_open 113 = .ok (.bipush 98, 2) := by decide +kernel
theorem dX10_open_115 : decode cX10_open 115 = .ok (.if_icmp .ne 38, 3) := by decide +kernel
theorem dX10_open_118 : decode cX10_open 118 = .ok (.iconst 0, 1) := by decide +kernel
theorem dX10_open_119 : decode cX10_open 119 = .ok (.istore 6, 2) := by decide +kernel
theorem dX10_open_121 : decode cX10_open 121 = .ok (.iload 6, 2) := by decide +kernel
theorem dX10_open_123 : decode cX10_open 123 = .ok (.bipush 6, 2) := by decide +kernel
theorem dX10_open_125 : decode cX10_open 125 = .ok (.if_icmp .ge 22, 3) := by decide +kernel
theorem dX10_open_128 : decode cX10_open 128 = .ok (.aload_n 0, 1) := by decide +kernel
theorem dX10_open_129 : decode cX10_open 129 = .ok (.getfield 68, 3) := by decide +kernel
theorem dX10_open_132 : decode cX10_open 132 = .ok (.iload_n 1, 1) := by decide +kernel
theorem dX10_open_133 : decode cX10_open 133 = .ok (.aaload, 1) := by decide +kernel
theorem dX10_open_134 : decode cX10_open 134 = .ok (.iload 5, 2) := by decide +kernel
theorem dX10_open_136 : decode cX10_open 136 = .ok (.aaload, 1) := by decide +kernel
theorem dX10_open_137 : decode cX10_open 137 = .ok (.iload 6, 2) := by decide +kernel
theorem dX10_open_139 : decode cX10_open 139 = .ok (.iconst 0, 1) := by decide +kernel
theorem dX10_open_140 : decode cX10_open 140 = .ok (.iastore, 1) := by decide +kernel
theorem dX10_open_141 : decode cX10_open 141 = .ok (.iinc 6 1, 3) := by decide +kernel
theorem dX10_open_144 : decode cX10_open 144 = .ok (.goto (-23), 3) := by decide +kernel
theorem dX10_open_147 : decode cX10_open 147 = .ok (.iinc 5 1, 3) := by decide +kernel
theorem dX10_open_150 : decode cX10_open 150 = .ok (.goto (-46), 3) := by decide +kernel
theorem dX10_open_153 : decode cX10_open 153 = .ok (.aload_n 0, 1) := by decide +kernel
theorem dX10_open_154 : decode cX10_open 154 = .ok (.getfield 16, 3) := by decide +kernel
theorem dX10_open_157 : decode cX10_open 157 = .ok (.iload_n 1, 1) := by decide +kernel
theorem dX10_open_158 : decode cX10_open 158 = .ok (.dup2, 1) := by decide +kernel
theorem dX10_open_159 : decode cX10_open 159 = .ok (.iaload, 1) := by decide +kernel
theorem dX10_open_160 : decode cX10_open 160 = .ok (.iconst 1, 1) := by decide +kernel
theorem dX10_open_161 : decode cX10_open 161 = .ok (.isub, 1) := by decide +kernel
theorem dX10_open_162 : decode cX10_open 162 = .ok (.iastore, 1) := by decide +kernel
theorem dX10_open_163 : decode cX10_open 163 = .ok (.goto (-112), 3) := by decide +kernel
theorem dX10_open_166 : decode cX10_open 166 = .ok (.iload_n 3, 1) := by decide +kernel
theorem dX10_open_167 : decode cX10_open 167 = .ok (.ireturn, 1) := by decide +kernel
theorem dX10_steps_0 : decode cX10_steps 0 = .ok (.aload_n 0, 1) := by decide +kernel
theorem dX10_steps_1 : decode cX10_steps 1 = .ok (.aload_n 0, 1) := by decide +kernel
theorem dX10_steps_2 : decode cX10_steps 2 = .ok (.iload_n 1, 1) := by decide +kernel
theorem dX10_steps_3 : decode cX10_steps 3 = .ok (.invokevirtual 122, 3) := by decide +kernel
theorem dX10_steps_6 : decode cX10_steps 6 = .ok (.iconst 1, 1) := by decide +kernel
theorem dX10_steps_7 : decode cX10_steps 7 = .ok (.invokevirtual 126, 3) := by decide +kernel
theorem dX10_steps_10 : decode cX10_steps 10 = .ok (.ifCond .eq 7, 3) := by decide +kernel
theorem dX10_steps_13 : decode cX10_steps 13 = .ok (.iconst 0, 1) := by decide +kernel
theorem dX10_steps_14 : decode cX10_steps 14 = .ok (.goto 9, 3) := by decide +kernel
theorem dX10_steps_17 : decode cX10_steps 17 = .ok (.aload_n 0, 1) := by decide +kernel
theorem dX10_steps_18 : decode cX10_steps 18 = .ok (.getfield 16, 3) := by decide +kernel
theorem dX10_steps_21 : decode cX10_steps 21 = .ok (.iload_n 1, 1) := by decide +kernel
theorem dX10_steps_22 : decode cX10_steps 22 = .ok (.iaload, 1) := by decide +kernel
theorem dX10_steps_23 : decode cX10_steps 23 = .ok (.ireturn, 1) := by decide +kernel
theorem dX10_isNoStep_0 : decode cX10_isNoStep 0 = .ok (.aload_n 0, 1) := by decide +kernel
theorem dX10_isNoStep_1 : decode cX10_isNoStep 1 = .ok (.aload_n 0, 1) := by decide +kernel
theorem dX10_isNoStep_2 : decode cX10_isNoStep 2 = .ok (.iload_n 1, 1) := by decide +kernel
theorem dX10_isNoStep_3 : decode cX10_isNoStep 3 = .ok (.invokevirtual 122, 3) := by decide +kernel
theorem dX10_isNoStep_6 : decode cX10_isNoStep 6 = .ok (.iconst 1, 1) := by decide +kernel
theorem dX10_isNoStep_7 : decode cX10_isNoStep 7 = .ok (.invokevirtual 126, 3) := by decide +kernel
theorem dX10_isNoStep_10 : decode cX10_isNoStep 10 = .ok (.ifCond .ne 32, 3) := by decide +kernel
theorem dX10_isNoStep_13 : decode cX10_isNoStep 13 = .ok (.aload_n 0, 1) := by decide +kernel
theorem dX10_isNoStep_14 : decode cX10_isNoStep 14 = .ok (.iload_n 2, 1) := by decide +kernel
theorem dX10_isNoStep_15 : decode cX10_isNoStep 15 = .ok (.iconst 0, 1) := by decide +kernel
theorem dX10_isNoStep_16 : decode cX10_isNoStep 16 = .ok (.aload_n 0, 1) := by decide +kernel
theorem dX10_isNoStep_17 : decode cX10_isNoStep 17 = .ok (.getfield 16, 3) := by decide +kernel
theorem dX10_isNoStep_20 : decode cX10_isNoStep 20 = .ok (.iload_n 1, 1) := by decide +kernel
theorem dX10_isNoStep_21 : decode cX10_isNoStep 21 = .ok (.iaload, 1) := by decide +kernel
theorem dX10_isNoStep_22 : decode cX10_isNoStep 22 = .ok (.iconst 1, 1) := by decide +kernel
theorem dX10_isNoStep_23 : decode cX10_isNoStep 23 = .ok (.isub, 1) := by decide +kernel
theorem dX10_isNoStep_24 : decode cX10_isNoStep 24 = .ok (.invokestatic 118, 3) := by decide +kernel
theorem dX10_isNoStep_27 : decode cX10_isNoStep 27 = .ok (.ifCond .ne 7, 3) := by decide +kernel
theorem dX10_isNoStep_30 : decode cX10_isNoStep 30 = .ok (.iconst 1, 1) := by decide +kernel
theorem dX10_isNoStep_31 : decode cX10_isNoStep 31 = .ok (.goto 4, 3) := by decide +kernel
theorem dX10_isNoStep_34 : decode cX10_isNoStep 34 = .ok (.iconst 0, 1) := by decide +kernel
theorem dX10_isNoStep_35 : decode cX10_isNoStep 35 = .ok (.iconst 2, 1) := by decide +kernel
theorem dX10_isNoStep_36 : decode cX10_isNoStep 36 = .ok (.invokevirtual 126, 3) := by decide +kernel
theorem dX10_isNoStep_39 : decode cX10_isNoStep 39 = .ok (.ifCond .eq 7, 3) := by decide +kernel
theorem dX10_isNoStep_42 : decode cX10_isNoStep 42 = .ok (.iconst 1, 1) := by decide +kernel
theorem dX10_isNoStep_43 : decode cX10_isNoStep 43 = .ok (.goto 4, 3) := by decide +kernel
theorem dX10_isNoStep_46 : decode cX10_isNoStep 46 = .ok (.iconst 0, 1) := by decide +kernel
theorem dX10_isNoStep_47 : decode cX10_isNoStep 47 = .ok (.ireturn, 1) := by decide +kernel
theorem dX10_step_0 : decode cX10_step 0 = .ok (.aload_n 0, 1) := by decide +kernel
theorem dX10_step_1 : decode cX10_step 1 = .ok (.iload_n 1, 1) := by decide +kernel
theorem dX10_step_2 : decode cX10_step 2 = .ok (.iload_n 2, 1) := by decide +kernel
theorem dX10_step_3 : decode cX10_step 3 = .ok (.invokevirtual 196, 3) := by decide +kernel
theorem dX10_step_6 : decode cX10_step 6 = .ok (.ifCond .eq 8, 3) := by decide +kernel
theorem dX10_step_9 : decode cX10_step 9 = .ok (.bipush 32, 2) := by decide +kernel
theorem dX10_step_11 : decode cX10_step 11 = .ok (.goto 11, 3) := by decide +kernel
theorem dX10_step_14 : decode cX10_step 14 = .ok (.aload_n 0, 1) := by decide +kernel
theorem dX10_step_15 : decode cX10_step 15 = .ok (.getfield 21, 3) := by decide +kernel
theorem dX10_step_18 : decode cX10_step 18 = .ok (.iload_n 1, 1) := by decide +kernel
theorem dX10_step_19 : decode cX10_step 19 = .ok (.aaload, 1) := by decide +kernel
theorem dX10_step_20 : decode cX10_step 20 = .ok (.iload_n 2, 1) := by decide +kernel
theorem dX10_step_21 : decode cX10_step 21 = .ok (.caload, 1) := by decide +kernel
theorem dX10_step_22 : decode cX10_step 22 = .ok (.ireturn, 1) := by decide +kernel
theorem dX10_isSigned_0 : decode cX10_isSigned 0 = .ok (.aload_n 0, 1) := by decide +kernel
theorem dX10_isSigned_1 : decode cX10_isSigned 1 = .ok (.iload_n 1, 1) := by decide +kernel
theorem dX10_isSigned_2 : decode cX10_isSigned 2 = .ok (.iload_n 2, 1) := by decide +kernel
theorem dX10_isSigned_3 : decode cX10_isSigned 3 = .ok (.invokevirtual 196, 3) := by decide +kernel
theorem dX10_isSigned_6 : decode cX10_isSigned 6 = .ok (.ifCond .ne 18, 3) := by decide +kernel
theorem dX10_isSigned_9 : decode cX10_isSigned 9 = .ok (.aload_n 0, 1) := by decide +kernel
theorem dX10_isSigned_10 : decode cX10_isSigned 10 = .ok (.getfield 26, 3) := by decide +kernel
theorem dX10_isSigned_13 : decode cX10_isSigned 13 = .ok (.iload_n 1, 1) := by decide +kernel
theorem dX10_isSigned_14 : decode cX10_isSigned 14 = .ok (.aaload, 1) := by decide +kernel
theorem dX10_isSigned_15 : decode cX10_isSigned 15 = .ok (.iload_n 2, 1) := by decide +kernel
theorem dX10_isSigned_16 : decode cX10_isSigned 16 = .ok (.baload, 1) := by decide +kernel
theorem dX10_isSigned_17 : decode cX10_isSigned 17 = .ok (.ifCond .eq 7, 3) := by decide +kernel
theorem dX10_isSigned_20 : decode cX10_isSigned 20 = .ok (.iconst 1, 1) := by decide +kernel
theorem dX10_isSigned_21 : decode cX10_isSigned 21 = .ok (.goto 4, 3) := by decide +kernel
theorem dX10_isSigned_24 : decode cX10_isSigned 24 = .ok (.iconst 0, 1) := by decide +kernel
theorem dX10_isSigned_25 : decode cX10_isSigned 25 = .ok (.ireturn, 1) := by decide +kernel
theorem dX10_isClosed_0 : decode cX10_isClosed 0 = .ok (.aload_n 0, 1) := by decide +kernel
theorem dX10_isClosed_1 : decode cX10_isClosed 1 = .ok (.aload_n 0, 1) := by decide +kernel
theorem dX10_isClosed_2 : decode cX10_isClosed 2 = .ok (.iload_n 1, 1) := by decide +kernel
theorem dX10_isClosed_3 : decode cX10_isClosed 3 = .ok (.invokevirtual 122, 3) := by decide +kernel
theorem dX10_isClosed_6 : decode cX10_isClosed 6 = .ok (.iconst 1, 1) := by decide +kernel
theorem dX10_isClosed_7 : decode cX10_isClosed 7 = .ok (.invokevirtual 126, 3) := by decide +kernel
theorem dX10_isClosed_10 : decode cX10_isClosed 10 = .ok (.ifCond .ne 17, 3) := by decide +kernel
theorem dX10_isClosed_13 : decode cX10_isClosed 13 = .ok (.aload_n 0, 1) := by decide +kernel
theorem dX10_isClosed_14 : decode cX10_isClosed 14 = .ok (.iload_n 1, 1) := by decide +kernel
theorem dX10_isClosed_15 : decode cX10_isClosed 15 = .ok (.invokevirtual 130, 3) := by decide +kernel
theorem dX10_isClosed_18 : decode cX10_isClosed 18 = .ok (.bipush 99, 2) := by decide +kernel
theorem dX10_isClosed_20 : decode cX10_isClosed 20 = .ok (.if_icmp .ne 7, 3) := by decide +kernel
theorem dX10_isClosed_23 : decode cX10_isClosed 23 = .ok (.iconst 1, 1) := by decide +kernel
theorem dX10_isClosed_24 : decode cX10_isClosed 24 = .ok (.goto 4, 3) := by decide +kernel
theorem dX10_isClosed_27 : decode cX10_isClosed 27 = .ok (.iconst 0, 1) := by decide +kernel
theorem dX10_isClosed_28 : decode cX10_isClosed 28 = .ok (.ireturn, 1) := by decide +kernel
theorem dX10_hasSprings_0 : decode cX10_hasSprings 0 = .ok (.aload_n 0, 1) := by decide +kernel
theorem dX10_hasSprings_1 : decode cX10_hasSprings 1 = .ok (.getfield 16, 3) := by decide +kernel
theorem dX10_hasSprings_4 : decode cX10_hasSprings 4 = .ok (.iload_n 1, 1) := by decide +kernel
theorem dX10_hasSprings_5 : decode cX10_hasSprings 5 = .ok (.iaload, 1) := by decide +kernel
theorem dX10_hasSprings_6 : decode cX10_hasSprings 6 = .ok (.iconst 1, 1) := by decide +kernel
theorem dX10_hasSprings_7 : decode cX10_hasSprings 7 = .ok (.if_icmp .le 7, 3) := by decide +kernel
theorem dX10_hasSprings_10 : decode cX10_hasSprings 10 = .ok (.iconst 1, 1) := by decide +kernel
theorem dX10_hasSprings_11 : decode cX10_hasSprings 11 = .ok (.goto 4, 3) := by decide +kernel
theorem dX10_hasSprings_14 : decode cX10_hasSprings 14 = .ok (.iconst 0, 1) := by decide +kernel
theorem dX10_hasSprings_15 : decode cX10_hasSprings 15 = .ok (.ireturn, 1) := by decide +kernel
theorem dX10_standsAt_0 : decode cX10_standsAt 0 = .ok (.aload_n 0, 1) := by decide +kernel
theorem dX10_standsAt_1 : decode cX10_standsAt 1 = .ok (.iload_n 1, 1) := by decide +kernel
theorem dX10_standsAt_2 : decode cX10_standsAt 2 = .ok (.invokevirtual 199, 3) := by decide +kernel
theorem dX10_standsAt_5 : decode cX10_standsAt 5 = .ok (.ifCond .eq 38, 3) := by decide +kernel
theorem dX10_standsAt_8 : decode cX10_standsAt 8 = .ok (.aload_n 0, 1) := by decide +kernel
theorem dX10_standsAt_9 : decode cX10_standsAt 9 = .ok (.getfield 34, 3) := by decide +kernel
theorem dX10_standsAt_12 : decode cX10_standsAt 12 = .ok (.iload_n 1, 1) := by decide +kernel
theorem dX10_standsAt_13 : decode cX10_standsAt 13 = .ok (.aaload, 1) := by decide +kernel
theorem dX10_standsAt_14 : decode cX10_standsAt 14 = .ok (.iload_n 2, 1) := by decide +kernel
theorem dX10_standsAt_15 : decode cX10_standsAt 15 = .ok (.aaload, 1) := by decide +kernel
theorem dX10_standsAt_16 : decode cX10_standsAt 16 = .ok (.iload_n 3, 1) := by decide +kernel
theorem dX10_standsAt_17 : decode cX10_standsAt 17 = .ok (.iaload, 1) := by decide +kernel
theorem dX10_standsAt_18 : decode cX10_standsAt 18 = .ok (.aload_n 0, 1) := by decide +kernel
theorem dX10_standsAt_19 : decode cX10_standsAt 19 = .ok (.getfield 42, 3) := by decide +kernel
theorem dX10_standsAt_22 : decode cX10_standsAt 22 = .ok (.iload_n 1, 1) := by decide +kernel
theorem dX10_standsAt_23 : decode cX10_standsAt 23 = .ok (.aaload, 1) := by decide +kernel
theorem dX10_standsAt_24 : decode cX10_standsAt 24 = .ok (.iload_n 2, 1) := by decide +kernel
theorem dX10_standsAt_25 : decode cX10_standsAt 25 = .ok (.iaload, 1) := by decide +kernel
theorem dX10_standsAt_26 : decode cX10_standsAt 26 = .ok (.aload_n 0, 1) := by decide +kernel
theorem dX10_standsAt_27 : decode cX10_standsAt 27 = .ok (.getfield 45, 3) := by decide +kernel
theorem dX10_standsAt_30 : decode cX10_standsAt 30 = .ok (.iload_n 1, 1) := by decide +kernel
theorem dX10_standsAt_31 : decode cX10_standsAt 31 = .ok (.aaload, 1) := by decide +kernel
theorem dX10_standsAt_32 : decode cX10_standsAt 32 = .ok (.iload_n 3, 1) := by decide +kernel
theorem dX10_standsAt_33 : decode cX10_standsAt 33 = .ok (.iaload, 1) := by decide +kernel
theorem dX10_standsAt_34 : decode cX10_standsAt 34 = .ok (.invokestatic 202, 3) := by decide +kernel
theorem dX10_standsAt_37 : decode cX10_standsAt 37 = .ok (.invokestatic 202, 3) := by decide +kernel
theorem dX10_standsAt_40 : decode cX10_standsAt 40 = .ok (.goto 4, 3) := by decide +kernel
theorem dX10_standsAt_43 : decode cX10_standsAt 43 = .ok (.iconst 0, 1) := by decide +kernel
theorem dX10_standsAt_44 : decode cX10_standsAt 44 = .ok (.ireturn, 1) := by decide +kernel
theorem dX10_stands_0 : decode cX10_stands 0 = .ok (.aload_n 0, 1) := by decide +kernel
theorem dX10_stands_1 : decode cX10_stands 1 = .ok (.aload_n 0, 1) := by decide +kernel
theorem dX10_stands_2 : decode cX10_stands 2 = .ok (.iload_n 1, 1) := by decide +kernel
theorem dX10_stands_3 : decode cX10_stands 3 = .ok (.iload_n 2, 1) := by decide +kernel
theorem dX10_stands_4 : decode cX10_stands 4 = .ok (.invokevirtual 153, 3) := by decide +kernel
theorem dX10_stands_7 : decode cX10_stands 7 = .ok (.iconst 1, 1) := by decide +kernel
theorem dX10_stands_8 : decode cX10_stands 8 = .ok (.invokevirtual 126, 3) := by decide +kernel
theorem dX10_stands_11 : decode cX10_stands 11 = .ok (.ifCond .eq 7, 3) := by decide +kernel
theorem dX10_stands_14 : decode cX10_stands 14 = .ok (.iconst 0, 1) := by decide +kernel
theorem dX10_stands_15 : decode cX10_stands 15 = .ok (.goto 16, 3) := by decide +kernel
theorem dX10_stands_18 : decode cX10_stands 18 = .ok (.aload_n 0, 1) := by decide +kernel
theorem dX10_stands_19 : decode cX10_stands 19 = .ok (.iload_n 1, 1) := by decide +kernel
theorem dX10_stands_20 : decode cX10_stands 20 = .ok (.iload_n 2, 1) := by decide +kernel
theorem dX10_stands_21 : decode cX10_stands 21 = .ok (.bipush 10, 2) := by decide +kernel
theorem dX10_stands_23 : decode cX10_stands 23 = .ok (.idiv, 1) := by decide +kernel
theorem dX10_stands_24 : decode cX10_stands 24 = .ok (.iload_n 2, 1) := by decide +kernel
theorem dX10_stands_25 : decode cX10_stands 25 = .ok (.bipush 10, 2) := by decide +kernel
theorem dX10_stands_27 : decode cX10_stands 27 = .ok (.irem, 1) := by decide +kernel
theorem dX10_stands_28 : decode cX10_stands 28 = .ok (.invokevirtual 159, 3) := by decide +kernel
theorem dX10_stands_31 : decode cX10_stands 31 = .ok (.ireturn, 1) := by decide +kernel
theorem dX10_thickNow_0 : decode cX10_thickNow 0 = .ok (.aload_n 0, 1) := by decide +kernel
theorem dX10_thickNow_1 : decode cX10_thickNow 1 = .ok (.getfield 62, 3) := by decide +kernel
theorem dX10_thickNow_4 : decode cX10_thickNow 4 = .ok (.iload_n 1, 1) := by decide +kernel
theorem dX10_thickNow_5 : decode cX10_thickNow 5 = .ok (.aaload, 1) := by decide +kernel
theorem dX10_thickNow_6 : decode cX10_thickNow 6 = .ok (.iload_n 2, 1) := by decide +kernel
theorem dX10_thickNow_7 : decode cX10_thickNow 7 = .ok (.laload, 1) := by decide +kernel
theorem dX10_thickNow_8 : decode cX10_thickNow 8 = .ok (.lstore_n 3, 1) := by decide +kernel
theorem dX10_thickNow_9 : decode cX10_thickNow 9 = .ok (.aload_n 0, 1) := by decide +kernel
theorem dX10_thickNow_10 : decode cX10_thickNow 10 = .ok (.getfield 51, 3) := by decide +kernel
theorem dX10_thickNow_13 : decode cX10_thickNow 13 = .ok (.iload_n 1, 1) := by decide +kernel
theorem dX10_thickNow_14 : decode cX10_thickNow 14 = .ok (.aaload, 1) := by decide +kernel
theorem dX10_thickNow_15 : decode cX10_thickNow 15 = .ok (.iload_n 2, 1) := by decide +kernel
theorem dX10_thickNow_16 : decode cX10_thickNow 16 = .ok (.caload, 1) := by decide +kernel
theorem dX10_thickNow_17 : decode cX10_thickNow 17 = .ok (.bipush 104, 2) := by decide +kernel
theorem dX10_thickNow_19 : decode cX10_thickNow 19 = .ok (.if_icmp .ne 9, 3) := by decide +kernel
theorem dX10_thickNow_22 : decode cX10_thickNow 22 = .ok (.ldc2_w 205, 3) := by decide +kernel
theorem dX10_thickNow_25 : decode cX10_thickNow 25 = .ok (.goto 25, 3) := by decide +kernel
theorem dX10_thickNow_28 : decode cX10_thickNow 28 = .ok (.aload_n 0, 1) := by decide +kernel
theorem dX10_thickNow_29 : decode cX10_thickNow 29 = .ok (.getfield 51, 3) := by decide +kernel
theorem dX10_thickNow_32 : decode cX10_thickNow 32 = .ok (.iload_n 1, 1) := by decide +kernel
theorem dX10_thickNow_33 : decode cX10_thickNow 33 = .ok (.aaload, 1) := by decide +kernel
theorem dX10_thickNow_34 : decode cX10_thickNow 34 = .ok (.iload_n 2, 1) := by decide +kernel
theorem dX10_thickNow_35 : decode cX10_thickNow 35 = .ok (.caload, 1) := by decide +kernel
theorem dX10_thickNow_36 : decode cX10_thickNow 36 = .ok (.bipush 102, 2) := by decide +kernel
theorem dX10_thickNow_38 : decode cX10_thickNow 38 = .ok (.if_icmp .ne 9, 3) := by decide +kernel
theorem dX10_thickNow_41 : decode cX10_thickNow 41 = .ok (.ldc2_w 207, 3) := by decide +kernel
theorem dX10_thickNow_44 : decode cX10_thickNow 44 = .ok (.goto 6, 3) := by decide +kernel
theorem dX10_thickNow_47 : decode cX10_thickNow 47 = .ok (.ldc2_w 209, 3) := by decide +kernel
theorem dX10_thickNow_50 : decode cX10_thickNow 50 = .ok (.lstore 5, 2) := by decide +kernel
theorem dX10_thickNow_52 : decode cX10_thickNow 52 = .ok (.aload_n 0, 1) := by decide +kernel
theorem dX10_thickNow_53 : decode cX10_thickNow 53 = .ok (.getfield 54, 3) := by decide +kernel
theorem dX10_thickNow_56 : decode cX10_thickNow 56 = .ok (.iload_n 1, 1) := by decide +kernel
theorem dX10_thickNow_57 : decode cX10_thickNow 57 = .ok (.aaload, 1) := by decide +kernel
theorem dX10_thickNow_58 : decode cX10_thickNow 58 = .ok (.iload_n 2, 1) := by decide +kernel
theorem dX10_thickNow_59 : decode cX10_thickNow 59 = .ok (.iaload, 1) := by decide +kernel
theorem dX10_thickNow_60 : decode cX10_thickNow 60 = .ok (.i2l, 1) := by decide +kernel
theorem dX10_thickNow_61 : decode cX10_thickNow 61 = .ok (.lload_n 3, 1) := by decide +kernel
theorem dX10_thickNow_62 : decode cX10_thickNow 62 = .ok (.lmul, 1) := by decide +kernel
theorem dX10_thickNow_63 : decode cX10_thickNow 63 = .ok (.ldc2_w 211, 3) := by decide +kernel
theorem dX10_thickNow_66 : decode cX10_thickNow 66 = .ok (.lload_n 3, 1) := by decide +kernel
theorem dX10_thickNow_67 : decode cX10_thickNow 67 = .ok (.lload 5, 2) := by decide +kernel
theorem dX10_thickNow_69 : decode cX10_thickNow 69 = .ok (.aload_n 0, 1) := by decide +kernel
theorem dX10_thickNow_70 : decode cX10_thickNow 70 = .ok (.getfield 57, 3) := by decide +kernel
theorem dX10_thickNow_73 : decode cX10_thickNow 73 = .ok (.iload_n 1, 1) := by decide +kernel
theorem dX10_thickNow_74 : decode cX10_thickNow 74 = .ok (.aaload, 1) := by decide +kernel
theorem dX10_thickNow_75 : decode cX10_thickNow 75 = .ok (.iload_n 2, 1) := by decide +kernel
theorem dX10_thickNow_76 : decode cX10_thickNow 76 = .ok (.iaload, 1) := by decide +kernel
theorem dX10_thickNow_77 : decode cX10_thickNow 77 = .ok (.i2l, 1) := by decide +kernel
theorem dX10_thickNow_78 : decode cX10_thickNow 78 = .ok (.lmul, 1) := by decide +kernel
theorem dX10_thickNow_79 : decode cX10_thickNow 79 = .ok (.ladd, 1) := by decide +kernel
theorem dX10_thickNow_80 : decode cX10_thickNow 80 = .ok (.lmul, 1) := by decide +kernel
theorem dX10_thickNow_81 : decode cX10_thickNow 81 = .ok (.ldiv, 1) := by decide +kernel
theorem dX10_thickNow_82 : decode cX10_thickNow 82 = .ok (.lstore 7, 2) := by decide +kernel
theorem dX10_thickNow_84 : decode cX10_thickNow 84 = .ok (.aload_n 0, 1) := by decide +kernel
theorem dX10_thickNow_85 : decode cX10_thickNow 85 = .ok (.getfield 54, 3) := by decide +kernel
theorem dX10_thickNow_88 : decode cX10_thickNow 88 = .ok (.iload_n 1, 1) := by decide +kernel
theorem dX10_thickNow_89 : decode cX10_thickNow 89 = .ok (.aaload, 1) := by decide +kernel
theorem dX10_thickNow_90 : decode cX10_thickNow 90 = .ok (.iload_n 2, 1) := by decide +kernel
theorem dX10_thickNow_91 : decode cX10_thickNow 91 = .ok (.iaload, 1) := by decide +kernel
theorem dX10_thickNow_92 : decode cX10_thickNow 92 = .ok (.lload 7, 2) := by decide +kernel
theorem dX10_thickNow_94 : decode cX10_thickNow 94 = .ok (.l2i, 1) := by decide +kernel
theorem dX10_thickNow_95 : decode cX10_thickNow 95 = .ok (.isub, 1) := by decide +kernel
theorem dX10_thickNow_96 : decode cX10_thickNow 96 = .ok (.ireturn, 1) := by decide +kernel
theorem dX10_isNoLayer_0 : decode cX10_isNoLayer 0 = .ok (.aload_n 0, 1) := by decide +kernel
theorem dX10_isNoLayer_1 : decode cX10_isNoLayer 1 = .ok (.aload_n 0, 1) := by decide +kernel
theorem dX10_isNoLayer_2 : decode cX10_isNoLayer 2 = .ok (.iload_n 1, 1) := by decide +kernel
theorem dX10_isNoLayer_3 : decode cX10_isNoLayer 3 = .ok (.invokevirtual 122, 3) := by decide +kernel
theorem dX10_isNoLayer_6 : decode cX10_isNoLayer 6 = .ok (.iconst 1, 1) := by decide +kernel
theorem dX10_isNoLayer_7 : decode cX10_isNoLayer 7 = .ok (.invokevirtual 126, 3) := by decide +kernel
theorem dX10_isNoLayer_10 : decode cX10_isNoLayer 10 = .ok (.ifCond .ne 32, 3) := by decide +kernel
theorem dX10_isNoLayer_13 : decode cX10_isNoLayer 13 = .ok (.aload_n 0, 1) := by decide +kernel
theorem dX10_isNoLayer_14 : decode cX10_isNoLayer 14 = .ok (.iload_n 2, 1) := by decide +kernel
theorem dX10_isNoLayer_15 : decode cX10_isNoLayer 15 = .ok (.iconst 0, 1) := by decide +kernel
theorem dX10_isNoLayer_16 : decode cX10_isNoLayer 16 = .ok (.aload_n 0, 1) := by decide +kernel
theorem dX10_isNoLayer_17 : decode cX10_isNoLayer 17 = .ok (.getfield 48, 3) := by decide +kernel
theorem dX10_isNoLayer_20 : decode cX10_isNoLayer 20 = .ok (.iload_n 1, 1) := by decide +kernel
theorem dX10_isNoLayer_21 : decode cX10_isNoLayer 21 = .ok (.iaload, 1) := by decide +kernel
theorem dX10_isNoLayer_22 : decode cX10_isNoLayer 22 = .ok (.iconst 1, 1) := by decide +kernel
theorem dX10_isNoLayer_23 : decode cX10_isNoLayer 23 = .ok (.isub, 1) := by decide +kernel
theorem dX10_isNoLayer_24 : decode cX10_isNoLayer 24 = .ok (.invokestatic 118, 3) := by decide +kernel
theorem dX10_isNoLayer_27 : decode cX10_isNoLayer 27 = .ok (.ifCond .ne 7, 3) := by decide +kernel
theorem dX10_isNoLayer_30 : decode cX10_isNoLayer 30 = .ok (.iconst 1, 1) := by decide +kernel
theorem dX10_isNoLayer_31 : decode cX10_isNoLayer 31 = .ok (.goto 4, 3) := by decide +kernel
theorem dX10_isNoLayer_34 : decode cX10_isNoLayer 34 = .ok (.iconst 0, 1) := by decide +kernel
theorem dX10_isNoLayer_35 : decode cX10_isNoLayer 35 = .ok (.iconst 2, 1) := by decide +kernel
theorem dX10_isNoLayer_36 : decode cX10_isNoLayer 36 = .ok (.invokevirtual 126, 3) := by decide +kernel
theorem dX10_isNoLayer_39 : decode cX10_isNoLayer 39 = .ok (.ifCond .eq 7, 3) := by decide +kernel
theorem dX10_isNoLayer_42 : decode cX10_isNoLayer 42 = .ok (.iconst 1, 1) := by decide +kernel
theorem dX10_isNoLayer_43 : decode cX10_isNoLayer 43 = .ok (.goto 4, 3) := by decide +kernel
theorem dX10_isNoLayer_46 : decode cX10_isNoLayer 46 = .ok (.iconst 0, 1) := by decide +kernel
theorem dX10_isNoLayer_47 : decode cX10_isNoLayer 47 = .ok (.ireturn, 1) := by decide +kernel
theorem dX10_thick_0 : decode cX10_thick 0 = .ok (.aload_n 0, 1) := by decide +kernel
theorem dX10_thick_1 : decode cX10_thick 1 = .ok (.iload_n 1, 1) := by decide +kernel
theorem dX10_thick_2 : decode cX10_thick 2 = .ok (.iload_n 2, 1) := by decide +kernel
theorem dX10_thick_3 : decode cX10_thick 3 = .ok (.invokevirtual 213, 3) := by decide +kernel
theorem dX10_thick_6 : decode cX10_thick 6 = .ok (.ifCond .eq 7, 3) := by decide +kernel
theorem dX10_thick_9 : decode cX10_thick 9 = .ok (.iconst 0, 1) := by decide +kernel
theorem dX10_thick_10 : decode cX10_thick 10 = .ok (.goto 9, 3) := by decide +kernel
theorem dX10_thick_13 : decode cX10_thick 13 = .ok (.aload_n 0, 1) := by decide +kernel
theorem dX10_thick_14 : decode cX10_thick 14 = .ok (.iload_n 1, 1) := by decide +kernel
theorem dX10_thick_15 : decode cX10_thick 15 = .ok (.iload_n 2, 1) := by decide +kernel
theorem dX10_thick_16 : decode cX10_thick 16 = .ok (.invokevirtual 216, 3) := by decide +kernel
theorem dX10_thick_19 : decode cX10_thick 19 = .ok (.ireturn, 1) := by decide +kernel
theorem dX10_topAt_0 : decode cX10_topAt 0 = .ok (.aload_n 0, 1) := by decide +kernel
theorem dX10_topAt_1 : decode cX10_topAt 1 = .ok (.iload_n 1, 1) := by decide +kernel
theorem dX10_topAt_2 : decode cX10_topAt 2 = .ok (.iload_n 2, 1) := by decide +kernel
theorem dX10_topAt_3 : decode cX10_topAt 3 = .ok (.iload_n 3, 1) := by decide +kernel
theorem dX10_topAt_4 : decode cX10_topAt 4 = .ok (.invokevirtual 159, 3) := by decide +kernel
theorem dX10_topAt_7 : decode cX10_topAt 7 = .ok (.aload_n 0, 1) := by decide +kernel
theorem dX10_topAt_8 : decode cX10_topAt 8 = .ok (.getfield 68, 3) := by decide +kernel
theorem dX10_topAt_11 : decode cX10_topAt 11 = .ok (.iload_n 1, 1) := by decide +kernel
theorem dX10_topAt_12 : decode cX10_topAt 12 = .ok (.aaload, 1) := by decide +kernel
theorem dX10_topAt_13 : decode cX10_topAt 13 = .ok (.iload_n 2, 1) := by decide +kernel
theorem dX10_topAt_14 : decode cX10_topAt 14 = .ok (.aaload, 1) := by decide +kernel
theorem dX10_topAt_15 : decode cX10_topAt 15 = .ok (.iload_n 3, 1) := by decide +kernel
theorem dX10_topAt_16 : decode cX10_topAt 16 = .ok (.iaload, 1) := by decide +kernel
theorem dX10_topAt_17 : decode cX10_topAt 17 = .ok (.isub, 1) := by decide +kernel
theorem dX10_topAt_18 : decode cX10_topAt 18 = .ok (.istore 4, 2) := by decide +kernel
theorem dX10_topAt_20 : decode cX10_topAt 20 = .ok (.iconst 0, 1) := by decide +kernel
theorem dX10_topAt_21 : decode cX10_topAt 21 = .ok (.istore 5, 2) := by decide +kernel
theorem dX10_topAt_23 : decode cX10_topAt 23 = .ok (.iload 5, 2) := by decide +kernel
theorem dX10_topAt_25 : decode cX10_topAt 25 = .ok (.aload_n 0, 1) := by decide +kernel
theorem dX10_topAt_26 : decode cX10_topAt 26 = .ok (.getfield 48, 3) := by decide +kernel
theorem dX10_topAt_29 : decode cX10_topAt 29 = .ok (.iload_n 1, 1) := by decide +kernel
theorem dX10_topAt_30 : decode cX10_topAt 30 = .ok (.iaload, 1) := by decide +kernel
theorem dX10_topAt_31 : decode cX10_topAt 31 = .ok (.if_icmp .ge 21, 3) := by decide +kernel
theorem dX10_topAt_34 : decode cX10_topAt 34 = .ok (.iload 4, 2) := by decide +kernel
theorem dX10_topAt_36 : decode cX10_topAt 36 = .ok (.aload_n 0, 1) := by decide +kernel
theorem dX10_topAt_37 : decode cX10_topAt 37 = .ok (.iload_n 1, 1) := by decide +kernel
theorem dX10_topAt_38 : decode cX10_topAt 38 = .ok (.iload 5, 2) := by decide +kernel
theorem dX10_topAt_40 : decode cX10_topAt 40 = .ok (.invokevirtual 216, 3) := by decide +kernel
theorem dX10_topAt_43 : decode cX10_topAt 43 = .ok (.iadd, 1) := by decide +kernel
theorem dX10_topAt_44 : decode cX10_topAt 44 = .ok (.istore 4, 2) := by decide +kernel
theorem dX10_topAt_46 : decode cX10_topAt 46 = .ok (.iinc 5 1, 3) := by decide +kernel
theorem dX10_topAt_49 : decode cX10_topAt 49 = .ok (.goto (-26), 3) := by decide +kernel
theorem dX10_topAt_52 : decode cX10_topAt 52 = .ok (.iconst 0, 1) := by decide +kernel
theorem dX10_topAt_53 : decode cX10_topAt 53 = .ok (.iload 4, 2) := by decide +kernel
theorem dX10_topAt_55 : decode cX10_topAt 55 = .ok (.invokestatic 185, 3) := by decide +kernel
theorem dX10_topAt_58 : decode cX10_topAt 58 = .ok (.ireturn, 1) := by decide +kernel
theorem dX10_tops_0 : decode cX10_tops 0 = .ok (.iconst 0, 1) := by decide +kernel
theorem dX10_tops_1 : decode cX10_tops 1 = .ok (.istore_n 2, 1) := by decide +kernel
theorem dX10_tops_2 : decode cX10_tops 2 = .ok (.iconst 0, 1) := by decide +kernel
theorem dX10_tops_3 : decode cX10_tops 3 = .ok (.istore_n 3, 1) := by decide +kernel
theorem dX10_tops_4 : decode cX10_tops 4 = .ok (.iload_n 3, 1) := by decide +kernel
theorem dX10_tops_5 : decode cX10_tops 5 = .ok (.aload_n 0, 1) := by decide +kernel
theorem dX10_tops_6 : decode cX10_tops 6 = .ok (.getfield 9, 3) := by decide +kernel
theorem dX10_tops_9 : decode cX10_tops 9 = .ok (.iload_n 1, 1) := by decide +kernel
theorem dX10_tops_10 : decode cX10_tops 10 = .ok (.iaload, 1) := by decide +kernel
theorem dX10_tops_11 : decode cX10_tops 11 = .ok (.if_icmp .ge 40, 3) := by decide +kernel
theorem dX10_tops_14 : decode cX10_tops 14 = .ok (.iconst 0, 1) := by decide +kernel
theorem dX10_tops_15 : decode cX10_tops 15 = .ok (.istore 4, 2) := by decide +kernel
theorem dX10_tops_17 : decode cX10_tops 17 = .ok (.iload 4, 2) := by decide +kernel
theorem dX10_tops_19 : decode cX10_tops 19 = .ok (.aload_n 0, 1) := by decide +kernel
theorem dX10_tops_20 : decode cX10_tops 20 = .ok (.getfield 13, 3) := by decide +kernel
theorem dX10_tops_23 : decode cX10_tops 23 = .ok (.iload_n 1, 1) := by decide +kernel
theorem dX10_tops_24 : decode cX10_tops 24 = .ok (.iaload, 1) := by decide +kernel
theorem dX10_tops_25 : decode cX10_tops 25 = .ok (.if_icmp .ge 20, 3) := by decide +kernel
theorem dX10_tops_28 : decode cX10_tops 28 = .ok (.iload_n 2, 1) := by decide +kernel
theorem dX10_tops_29 : decode cX10_tops 29 = .ok (.aload_n 0, 1) := by decide +kernel
theorem dX10_tops_30 : decode cX10_tops 30 = .ok (.iload_n 1, 1) := by decide +kernel
theorem dX10_tops_31 : decode cX10_tops 31 = .ok (.iload_n 3, 1) := by decide +kernel
theorem dX10_tops_32 : decode cX10_tops 32 = .ok (.iload 4, 2) := by decide +kernel
theorem dX10_tops_34 : decode cX10_tops 34 = .ok (.invokevirtual 182, 3) := by decide +kernel
theorem dX10_tops_37 : decode cX10_tops 37 = .ok (.iadd, 1) := by decide +kernel
theorem dX10_tops_38 : decode cX10_tops 38 = .ok (.istore_n 2, 1) := by decide +kernel
theorem dX10_tops_39 : decode cX10_tops 39 = .ok (.iinc 4 1, 3) := by decide +kernel
theorem dX10_tops_42 : decode cX10_tops 42 = .ok (.goto (-25), 3) := by decide +kernel
theorem dX10_tops_45 : decode cX10_tops 45 = .ok (.iinc 3 1, 3) := by decide +kernel
theorem dX10_tops_48 : decode cX10_tops 48 = .ok (.goto (-44), 3) := by decide +kernel
theorem dX10_tops_51 : decode cX10_tops 51 = .ok (.iload_n 2, 1) := by decide +kernel
theorem dX10_tops_52 : decode cX10_tops 52 = .ok (.ireturn, 1) := by decide +kernel
theorem dX10_top_0 : decode cX10_top 0 = .ok (.aload_n 0, 1) := by decide +kernel
theorem dX10_top_1 : decode cX10_top 1 = .ok (.aload_n 0, 1) := by decide +kernel
theorem dX10_top_2 : decode cX10_top 2 = .ok (.iload_n 1, 1) := by decide +kernel
theorem dX10_top_3 : decode cX10_top 3 = .ok (.iload_n 2, 1) := by decide +kernel
theorem dX10_top_4 : decode cX10_top 4 = .ok (.invokevirtual 153, 3) := by decide +kernel
theorem dX10_top_7 : decode cX10_top 7 = .ok (.iconst 1, 1) := by decide +kernel
theorem dX10_top_8 : decode cX10_top 8 = .ok (.invokevirtual 126, 3) := by decide +kernel
theorem dX10_top_11 : decode cX10_top 11 = .ok (.ifCond .eq 7, 3) := by decide +kernel
theorem dX10_top_14 : decode cX10_top 14 = .ok (.iconst 0, 1) := by decide +kernel
theorem dX10_top_15 : decode cX10_top 15 = .ok (.goto 16, 3) := by decide +kernel
theorem dX10_top_18 : decode cX10_top 18 = .ok (.aload_n 0, 1) := by decide +kernel
theorem dX10_top_19 : decode cX10_top 19 = .ok (.iload_n 1, 1) := by decide +kernel
theorem dX10_top_20 : decode cX10_top 20 = .ok (.iload_n 2, 1) := by decide +kernel
theorem dX10_top_21 : decode cX10_top 21 = .ok (.bipush 10, 2) := by decide +kernel
theorem dX10_top_23 : decode cX10_top 23 = .ok (.idiv, 1) := by decide +kernel
theorem dX10_top_24 : decode cX10_top 24 = .ok (.iload_n 2, 1) := by decide +kernel
theorem dX10_top_25 : decode cX10_top 25 = .ok (.bipush 10, 2) := by decide +kernel
theorem dX10_top_27 : decode cX10_top 27 = .ok (.irem, 1) := by decide +kernel
theorem dX10_top_28 : decode cX10_top 28 = .ok (.invokevirtual 182, 3) := by decide +kernel
theorem dX10_top_31 : decode cX10_top 31 = .ok (.ireturn, 1) := by decide +kernel
theorem dX10_foldsBy_0 : decode cX10_foldsBy 0 = .ok (.iconst 0, 1) := by decide +kernel
theorem dX10_foldsBy_1 : decode cX10_foldsBy 1 = .ok (.istore 4, 2) := by decide +kernel
theorem dX10_foldsBy_3 : decode cX10_foldsBy 3 = .ok (.iconst 0, 1) := by decide +kernel
theorem dX10_foldsBy_4 : decode cX10_foldsBy 4 = .ok (.istore 5, 2) := by decide +kernel
theorem dX10_foldsBy_6 : decode cX10_foldsBy 6 = .ok (.iload 5, 2) := by decide +kernel
theorem dX10_foldsBy_8 : decode cX10_foldsBy 8 = .ok (.iconst 1, 1) := by decide +kernel
theorem dX10_foldsBy_9 : decode cX10_foldsBy 9 = .ok (.iadd, 1) := by decide +kernel
theorem dX10_foldsBy_10 : decode cX10_foldsBy 10 = .ok (.bipush 6, 2) := by decide +kernel
theorem dX10_foldsBy_12 : decode cX10_foldsBy 12 = .ok (.if_icmp .ge 109, 3) := by decide +kernel
theorem dX10_foldsBy_15 : decode cX10_foldsBy 15 = .ok (.iconst 0, 1) := by decide +kernel
theorem dX10_foldsBy_16 : decode cX10_foldsBy 16 = .ok (.istore 6, 2) := by decide +kernel
theorem dX10_foldsBy_18 : decode cX10_foldsBy 18 = .ok (.iload 6, 2) := by decide +kernel
theorem dX10_foldsBy_20 : decode cX10_foldsBy 20 = .ok (.bipush 6, 2) := by decide +kernel
theorem dX10_foldsBy_22 : decode cX10_foldsBy 22 = .ok (.if_icmp .ge 93, 3) := by decide +kernel
theorem dX10_foldsBy_25 : decode cX10_foldsBy 25 = .ok (.aload_n 0, 1) := by decide +kernel
theorem dX10_foldsBy_26 : decode cX10_foldsBy 26 = .ok (.getfield 68, 3) := by decide +kernel
theorem dX10_foldsBy_29 : decode cX10_foldsBy 29 = .ok (.iload_n 1, 1) := by decide +kernel
theorem dX10_foldsBy_30 : decode cX10_foldsBy 30 = .ok (.aaload, 1) := by decide +kernel
theorem dX10_foldsBy_31 : decode cX10_foldsBy 31 = .ok (.iload 5, 2) := by decide +kernel
theorem dX10_foldsBy_33 : decode cX10_foldsBy 33 = .ok (.aaload, 1) := by decide +kernel
theorem dX10_foldsBy_34 : decode cX10_foldsBy 34 = .ok (.iload 6, 2) := by decide +kernel
theorem dX10_foldsBy_36 : decode cX10_foldsBy 36 = .ok (.iaload, 1) := by decide +kernel
theorem dX10_foldsBy_37 : decode cX10_foldsBy 37 = .ok (.istore 7, 2) := by decide +kernel
theorem dX10_foldsBy_39 : decode cX10_foldsBy 39 = .ok (.iload 6, 2) := by decide +kernel
theorem dX10_foldsBy_41 : decode cX10_foldsBy 41 = .ok (.iload_n 2, 1) := by decide +kernel
theorem dX10_foldsBy_42 : decode cX10_foldsBy 42 = .ok (.iadd, 1) := by decide +kernel
theorem dX10_foldsBy_43 : decode cX10_foldsBy 43 = .ok (.iconst 0, 1) := by decide +kernel
theorem dX10_foldsBy_44 : decode cX10_foldsBy 44 = .ok (.iconst 5, 1) := by decide +kernel
theorem dX10_foldsBy_45 : decode cX10_foldsBy 45 = .ok (.invokestatic 118, 3) := by decide +kernel
theorem dX10_foldsBy_48 : decode cX10_foldsBy 48 = .ok (.ifCond .eq 22, 3) := by decide +kernel
theorem dX10_foldsBy_51 : decode cX10_foldsBy 51 = .ok (.aload_n 0, 1) := by decide +kernel
theorem dX10_foldsBy_52 : decode cX10_foldsBy 52 = .ok (.getfield 68, 3) := by decide +kernel
theorem dX10_foldsBy_55 : decode cX10_foldsBy 55 = .ok (.iload_n 1, 1) := by decide +kernel
theorem dX10_foldsBy_56 : decode cX10_foldsBy 56 = .ok (.aaload, 1) := by decide +kernel
theorem dX10_foldsBy_57 : decode cX10_foldsBy 57 = .ok (.iload 5, 2) := by decide +kernel
theorem dX10_foldsBy_59 : decode cX10_foldsBy 59 = .ok (.iconst 1, 1) := by decide +kernel
theorem dX10_foldsBy_60 : decode cX10_foldsBy 60 = .ok (.iadd, 1) := by decide +kernel
theorem dX10_foldsBy_61 : decode cX10_foldsBy 61 = .ok (.aaload, 1) := by decide +kernel
theorem dX10_foldsBy_62 : decode cX10_foldsBy 62 = .ok (.iload 6, 2) := by decide +kernel
theorem dX10_foldsBy_64 : decode cX10_foldsBy 64 = .ok (.iload_n 2, 1) := by decide +kernel
theorem dX10_foldsBy_65 : decode cX10_foldsBy 65 = .ok (.iadd, 1) := by decide +kernel
theorem dX10_foldsBy_66 : decode cX10_foldsBy 66 = .ok (.iaload, 1) := by decide +kernel
theorem dX10_foldsBy_67 : decode cX10_foldsBy 67 = .ok (.goto 4, 3) := by decide +kernel
theorem dX10_foldsBy_70 : decode cX10_foldsBy 70 = .ok (.iconst 0, 1) := by decide +kernel
theorem dX10_foldsBy_71 : decode cX10_foldsBy 71 = .ok (.istore 8, 2) := by decide +kernel
theorem dX10_foldsBy_73 : decode cX10_foldsBy 73 = .ok (.iload 4, 2) := by decide +kernel
theorem dX10_foldsBy_75 : decode cX10_foldsBy 75 = .ok (.iload 7, 2) := by decide +kernel
theorem dX10_foldsBy_77 : decode cX10_foldsBy 77 = .ok (.ifCond .le 28, 3) := by decide +kernel
theorem dX10_foldsBy_80 : decode cX10_foldsBy 80 = .ok (.iload 8, 2) := by decide +kernel
theorem dX10_foldsBy_82 : decode cX10_foldsBy 82 = .ok (.ifCond .le 23, 3) := by decide +kernel
theorem dX10_foldsBy_85 : decode cX10_foldsBy 85 = .ok (.iload_n 3, 1) := by decide +kernel
theorem dX10_foldsBy_86 : decode cX10_foldsBy 86 = .ok (.ifCond .eq 15, 3) := by decide +kernel
theorem dX10_foldsBy_89 : decode cX10_foldsBy 89 = .ok (.iload 7, 2) := by decide +kernel
theorem dX10_foldsBy_91 : decode cX10_foldsBy 91 = .ok (.iload 8, 2) := by decide +kernel
theorem dX10_foldsBy_93 : decode cX10_foldsBy 93 = .ok (.isub, 1) := by decide +kernel
theorem dX10_foldsBy_94 : decode cX10_foldsBy 94 = .ok (.invokestatic 167, 3) := by decide +kernel
theorem dX10_foldsBy_97 : decode cX10_foldsBy 97 = .ok (.iconst 3, 1) := by decide +kernel
theorem dX10_foldsBy_98 : decode cX10_foldsBy 98 = .ok (.if_icmp .gt 7, 3) := by decide +kernel
theorem dX10_foldsBy_101 : decode cX10_foldsBy 101 = .ok (.iconst 1, 1) := by decide +kernel
theorem dX10_foldsBy_102 : decode cX10_foldsBy 102 = .ok (.goto 4, 3) := by decide +kernel
theorem dX10_foldsBy_105 : decode cX10_foldsBy 105 = .ok (.iconst 0, 1) := by decide +kernel
theorem dX10_foldsBy_106 : decode cX10_foldsBy 106 = .ok (.iadd, 1) := by decide +kernel
theorem dX10_foldsBy_107 : decode cX10_foldsBy 107 = .ok (.istore 4, 2) := by decide +kernel
theorem dX10_foldsBy_109 : decode cX10_foldsBy 109 = .ok (.iinc 6 1, 3) := by decide +kernel
theorem dX10_foldsBy_112 : decode cX10_foldsBy 112 = .ok (.goto (-94), 3) := by decide +kernel
theorem dX10_foldsBy_115 : decode cX10_foldsBy 115 = .ok (.iinc 5 1, 3) := by decide +kernel
theorem dX10_foldsBy_118 : decode cX10_foldsBy 118 = .ok (.goto (-112), 3) := by decide +kernel
theorem dX10_foldsBy_121 : decode cX10_foldsBy 121 = .ok (.iload 4, 2) := by decide +kernel
theorem dX10_foldsBy_123 : decode cX10_foldsBy 123 = .ok (.ireturn, 1) := by decide +kernel
theorem dX10_folds_0 : decode cX10_folds 0 = .ok (.aload_n 0, 1) := by decide +kernel
theorem dX10_folds_1 : decode cX10_folds 1 = .ok (.aload_n 0, 1) := by decide +kernel
theorem dX10_folds_2 : decode cX10_folds 2 = .ok (.iload_n 1, 1) := by decide +kernel
theorem dX10_folds_3 : decode cX10_folds 3 = .ok (.invokevirtual 122, 3) := by decide +kernel
theorem dX10_folds_6 : decode cX10_folds 6 = .ok (.iconst 1, 1) := by decide +kernel
theorem dX10_folds_7 : decode cX10_folds 7 = .ok (.invokevirtual 126, 3) := by decide +kernel
theorem dX10_folds_10 : decode cX10_folds 10 = .ok (.ifCond .eq 7, 3) := by decide +kernel
theorem dX10_folds_13 : decode cX10_folds 13 = .ok (.iconst 0, 1) := by decide +kernel
theorem dX10_folds_14 : decode cX10_folds 14 = .ok (.goto 18, 3) := by decide +kernel
theorem dX10_folds_17 : decode cX10_folds 17 = .ok (.aload_n 0, 1) := by decide +kernel
theorem dX10_folds_18 : decode cX10_folds 18 = .ok (.iload_n 1, 1) := by decide +kernel
theorem dX10_folds_19 : decode cX10_folds 19 = .ok (.iconst 1, 1) := by decide +kernel
theorem dX10_folds_20 : decode cX10_folds 20 = .ok (.iload_n 2, 1) := by decide +kernel
theorem dX10_folds_21 : decode cX10_folds 21 = .ok (.invokevirtual 219, 3) := by decide +kernel
theorem dX10_folds_24 : decode cX10_folds 24 = .ok (.aload_n 0, 1) := by decide +kernel
theorem dX10_folds_25 : decode cX10_folds 25 = .ok (.iload_n 1, 1) := by decide +kernel
theorem dX10_folds_26 : decode cX10_folds 26 = .ok (.iconst (-1), 1) := by decide +kernel
theorem dX10_folds_27 : decode cX10_folds 27 = .ok (.iload_n 2, 1) := by decide +kernel
theorem dX10_folds_28 : decode cX10_folds 28 = .ok (.invokevirtual 219, 3) := by decide +kernel
theorem dX10_folds_31 : decode cX10_folds 31 = .ok (.iadd, 1) := by decide +kernel
theorem dX10_folds_32 : decode cX10_folds 32 = .ok (.ireturn, 1) := by decide +kernel
theorem dX10_buttonAt_0 : decode cX10_buttonAt 0 = .ok (.aload_n 0, 1) := by decide +kernel
theorem dX10_buttonAt_1 : decode cX10_buttonAt 1 = .ok (.aload_n 0, 1) := by decide +kernel
theorem dX10_buttonAt_2 : decode cX10_buttonAt 2 = .ok (.iload_n 1, 1) := by decide +kernel
theorem dX10_buttonAt_3 : decode cX10_buttonAt 3 = .ok (.iload_n 2, 1) := by decide +kernel
theorem dX10_buttonAt_4 : decode cX10_buttonAt 4 = .ok (.invokevirtual 153, 3) := by decide +kernel
theorem dX10_buttonAt_7 : decode cX10_buttonAt 7 = .ok (.iconst 1, 1) := by decide +kernel
theorem dX10_buttonAt_8 : decode cX10_buttonAt 8 = .ok (.invokevirtual 126, 3) := by decide +kernel
theorem dX10_buttonAt_11 : decode cX10_buttonAt 11 = .ok (.ifCond .eq 5, 3) := by decide +kernel
theorem dX10_buttonAt_14 : decode cX10_buttonAt 14 = .ok (.iconst 0, 1) := by decide +kernel
theorem dX10_buttonAt_15 : decode cX10_buttonAt 15 = .ok (.ireturn, 1) := by decide +kernel
theorem dX10_buttonAt_16 : decode cX10_buttonAt 16 = .ok (.aload_n 0, 1) := by decide +kernel
theorem dX10_buttonAt_17 : decode cX10_buttonAt 17 = .ok (.getfield 68, 3) := by decide +kernel
theorem dX10_buttonAt_20 : decode cX10_buttonAt 20 = .ok (.iload_n 1, 1) := by decide +kernel
theorem dX10_buttonAt_21 : decode cX10_buttonAt 21 = .ok (.aaload, 1) := by decide +kernel
theorem dX10_buttonAt_22 : decode cX10_buttonAt 22 = .ok (.iload_n 2, 1) := by decide +kernel
theorem dX10_buttonAt_23 : decode cX10_buttonAt 23 = .ok (.bipush 10, 2) := by decide +kernel
theorem dX10_buttonAt_25 : decode cX10_buttonAt 25 = .ok (.idiv, 1) := by decide +kernel
theorem dX10_buttonAt_26 : decode cX10_buttonAt 26 = .ok (.aaload, 1) := by decide +kernel
theorem dX10_buttonAt_27 : decode cX10_buttonAt 27 = .ok (.iload_n 2, 1) := by decide +kernel
theorem dX10_buttonAt_28 : decode cX10_buttonAt 28 = .ok (.bipush 10, 2) := by decide +kernel
theorem dX10_buttonAt_30 : decode cX10_buttonAt 30 = .ok (.irem, 1) := by decide +kernel
theorem dX10_buttonAt_31 : decode cX10_buttonAt 31 = .ok (.iaload, 1) := by decide +kernel
theorem dX10_buttonAt_32 : decode cX10_buttonAt 32 = .ok (.istore_n 3, 1) := by decide +kernel
theorem dX10_buttonAt_33 : decode cX10_buttonAt 33 = .ok (.aload_n 0, 1) := by decide +kernel
theorem dX10_buttonAt_34 : decode cX10_buttonAt 34 = .ok (.iload_n 3, 1) := by decide +kernel
theorem dX10_buttonAt_35 : decode cX10_buttonAt 35 = .ok (.ifCond .ne 7, 3) := by decide +kernel
theorem dX10_buttonAt_38 : decode cX10_buttonAt 38 = .ok (.iconst 1, 1) := by decide +kernel
theorem dX10_buttonAt_39 : decode cX10_buttonAt 39 = .ok (.goto 4, 3) := by decide +kernel
theorem dX10_buttonAt_42 : decode cX10_buttonAt 42 = .ok (.iconst 0, 1) := by decide +kernel
theorem dX10_buttonAt_43 : decode cX10_buttonAt 43 = .ok (.iconst 2, 1) := by decide +kernel
theorem dX10_buttonAt_44 : decode cX10_buttonAt 44 = .ok (.invokevirtual 126, 3) := by decide +kernel
theorem dX10_buttonAt_47 : decode cX10_buttonAt 47 = .ok (.ifCond .eq 7, 3) := by decide +kernel
theorem dX10_buttonAt_50 : decode cX10_buttonAt 50 = .ok (.iconst 0, 1) := by decide +kernel
theorem dX10_buttonAt_51 : decode cX10_buttonAt 51 = .ok (.goto 4, 3) := by decide +kernel
theorem dX10_buttonAt_54 : decode cX10_buttonAt 54 = .ok (.iload_n 3, 1) := by decide +kernel
theorem dX10_buttonAt_55 : decode cX10_buttonAt 55 = .ok (.ireturn, 1) := by decide +kernel
theorem dX10_body_0 : decode cX10_body 0 = .ok (.aload_n 0, 1) := by decide +kernel
theorem dX10_body_1 : decode cX10_body 1 = .ok (.aload_n 0, 1) := by decide +kernel
theorem dX10_body_2 : decode cX10_body 2 = .ok (.getfield 223, 3) := by decide +kernel
theorem dX10_body_5 : decode cX10_body 5 = .ok (.iconst 3, 1) := by decide +kernel
theorem dX10_body_6 : decode cX10_body 6 = .ok (.if_icmp .ne 7, 3) := by decide +kernel
theorem dX10_body_9 : decode cX10_body 9 = .ok (.iconst 1, 1) := by decide +kernel
theorem dX10_body_10 : decode cX10_body 10 = .ok (.goto 4, 3) := by decide +kernel
theorem dX10_body_13 : decode cX10_body 13 = .ok (.iconst 0, 1) := by decide +kernel
theorem dX10_body_14 : decode cX10_body 14 = .ok (.iconst 1, 1) := by decide +kernel
theorem dX10_body_15 : decode cX10_body 15 = .ok (.invokevirtual 126, 3) := by decide +kernel
theorem dX10_body_18 : decode cX10_body 18 = .ok (.ifCond .eq 5, 3) := by decide +kernel
theorem dX10_body_21 : decode cX10_body 21 = .ok (.iconst 0, 1) := by decide +kernel
theorem dX10_body_22 : decode cX10_body 22 = .ok (.ireturn, 1) := by decide +kernel
theorem dX10_body_23 : decode cX10_body 23 = .ok (.aload_n 0, 1) := by decide +kernel
theorem dX10_body_24 : decode cX10_body 24 = .ok (.dup, 1) := by decide +kernel
theorem dX10_body_25 : decode cX10_body 25 = .ok (.getfield 223, 3) := by decide +kernel
theorem dX10_body_28 : decode cX10_body 28 = .ok (.iconst 1, 1) := by decide +kernel
theorem dX10_body_29 : decode cX10_body 29 = .ok (.iadd, 1) := by decide +kernel
theorem dX10_body_30 : decode cX10_body 30 = .ok (.putfield 223, 3) := by decide +kernel
theorem dX10_body_33 : decode cX10_body 33 = .ok (.aload_n 0, 1) := by decide +kernel
theorem dX10_body_34 : decode cX10_body 34 = .ok (.getfield 223, 3) := by decide +kernel
theorem dX10_body_37 : decode cX10_body 37 = .ok (.iconst 1, 1) := by decide +kernel
theorem dX10_body_38 : decode cX10_body 38 = .ok (.isub, 1) := by decide +kernel
theorem dX10_body_39 : decode cX10_body 39 = .ok (.ireturn, 1) := by decide +kernel
theorem dX10_isNoBody_0 : decode cX10_isNoBody 0 = .ok (.iload_n 1, 1) := by decide +kernel
theorem dX10_isNoBody_1 : decode cX10_isNoBody 1 = .ok (.iconst 0, 1) := by decide +kernel
theorem dX10_isNoBody_2 : decode cX10_isNoBody 2 = .ok (.aload_n 0, 1) := by decide +kernel
theorem dX10_isNoBody_3 : decode cX10_isNoBody 3 = .ok (.getfield 223, 3) := by decide +kernel
theorem dX10_isNoBody_6 : decode cX10_isNoBody 6 = .ok (.iconst 1, 1) := by decide +kernel
theorem dX10_isNoBody_7 : decode cX10_isNoBody 7 = .ok (.isub, 1) := by decide +kernel
theorem dX10_isNoBody_8 : decode cX10_isNoBody 8 = .ok (.invokestatic 118, 3) := by decide +kernel
theorem dX10_isNoBody_11 : decode cX10_isNoBody 11 = .ok (.ifCond .ne 7, 3) := by decide +kernel
theorem dX10_isNoBody_14 : decode cX10_isNoBody 14 = .ok (.iconst 1, 1) := by decide +kernel
theorem dX10_isNoBody_15 : decode cX10_isNoBody 15 = .ok (.goto 4, 3) := by decide +kernel
theorem dX10_isNoBody_18 : decode cX10_isNoBody 18 = .ok (.iconst 0, 1) := by decide +kernel
theorem dX10_isNoBody_19 : decode cX10_isNoBody 19 = .ok (.ireturn, 1) := by decide +kernel
theorem dX10_mass_0 : decode cX10_mass 0 = .ok (.iload_n 2, 1) := by decide +kernel
theorem dX10_mass_1 : decode cX10_mass 1 = .ok (.ifCond .lt 25, 3) := by decide +kernel
theorem dX10_mass_4 : decode cX10_mass 4 = .ok (.iload_n 2, 1) := by decide +kernel
theorem dX10_mass_5 : decode cX10_mass 5 = .ok (.bipush 10, 2) := by decide +kernel
theorem dX10_mass_7 : decode cX10_mass 7 = .ok (.idiv, 1) := by decide +kernel
theorem dX10_mass_8 : decode cX10_mass 8 = .ok (.bipush 6, 2) := by decide +kernel
theorem dX10_mass_10 : decode cX10_mass 10 = .ok (.if_icmp .ge 16, 3) := by decide +kernel
theorem dX10_mass_13 : decode cX10_mass 13 = .ok (.iload_n 2, 1) := by decide +kernel
theorem dX10_mass_14 : decode cX10_mass 14 = .ok (.bipush 10, 2) := by decide +kernel
theorem dX10_mass_16 : decode cX10_mass 16 = .ok (.irem, 1) := by decide +kernel
theorem dX10_mass_17 : decode cX10_mass 17 = .ok (.bipush 6, 2) := by decide +kernel
theorem dX10_mass_19 : decode cX10_mass 19 = .ok (.if_icmp .ge 7, 3) := by decide +kernel
theorem dX10_mass_22 : decode cX10_mass 22 = .ok (.iconst 1, 1) := by decide +kernel
theorem dX10_mass_23 : decode cX10_mass 23 = .ok (.goto 4, 3) := by decide +kernel
theorem dX10_mass_26 : decode cX10_mass 26 = .ok (.iconst 0, 1) := by decide +kernel
theorem dX10_mass_27 : decode cX10_mass 27 = .ok (.istore 4, 2) := by decide +kernel
theorem dX10_mass_29 : decode cX10_mass 29 = .ok (.aload_n 0, 1) := by decide +kernel
theorem dX10_mass_30 : decode cX10_mass 30 = .ok (.aload_n 0, 1) := by decide +kernel
theorem dX10_mass_31 : decode cX10_mass 31 = .ok (.iload_n 1, 1) := by decide +kernel
theorem dX10_mass_32 : decode cX10_mass 32 = .ok (.invokevirtual 226, 3) := by decide +kernel
theorem dX10_mass_35 : decode cX10_mass 35 = .ok (.ifCond .ne 8, 3) := by decide +kernel
theorem dX10_mass_38 : decode cX10_mass 38 = .ok (.iload 4, 2) := by decide +kernel
theorem dX10_mass_40 : decode cX10_mass 40 = .ok (.ifCond .ne 7, 3) := by decide +kernel
theorem dX10_mass_43 : decode cX10_mass 43 = .ok (.iconst 1, 1) := by decide +kernel
theorem dX10_mass_44 : decode cX10_mass 44 = .ok (.goto 4, 3) := by decide +kernel
theorem dX10_mass_47 : decode cX10_mass 47 = .ok (.iconst 0, 1) := by decide +kernel
theorem dX10_mass_48 : decode cX10_mass 48 = .ok (.iconst 1, 1) := by decide +kernel
theorem dX10_mass_49 : decode cX10_mass 49 = .ok (.invokevirtual 126, 3) := by decide +kernel
theorem dX10_mass_52 : decode cX10_mass 52 = .ok (.ifCond .ne 26, 3) := by decide +kernel
theorem dX10_mass_55 : decode cX10_mass 55 = .ok (.aload_n 0, 1) := by decide +kernel
theorem dX10_mass_56 : decode cX10_mass 56 = .ok (.iload_n 3, 1) := by decide +kernel
theorem dX10_mass_57 : decode cX10_mass 57 = .ok (.iconst 0, 1) := by decide +kernel
theorem dX10_mass_58 : decode cX10_mass 58 = .ok (.bipush 99, 2) := by decide +kernel
theorem dX10_mass_60 : decode cX10_mass 60 = .ok (.invokestatic 118, 3) := by decide +kernel
theorem dX10_mass_63 : decode cX10_mass 63 = .ok (.ifCond .ne 7, 3) := by decide +kernel
theorem dX10_mass_66 : decode cX10_mass 66 = .ok (.iconst 1, 1) := by decide +kernel
theorem dX10_mass_67 : decode cX10_mass 67 = .ok (.goto 4, 3) := by decide +kernel
theorem dX10_mass_70 : decode cX10_mass 70 = .ok (.iconst 0, 1) := by decide +kernel
theorem dX10_mass_71 : decode cX10_mass 71 = .ok (.iconst 2, 1) := by decide +kernel
theorem dX10_mass_72 : decode cX10_mass 72 = .ok (.invokevirtual 126, 3) := by decide +kernel
theorem dX10_mass_75 : decode cX10_mass 75 = .ok (.ifCond .eq 5, 3) := by decide +kernel
theorem dX10_mass_78 : decode cX10_mass 78 = .ok (.iconst 0, 1) := by decide +kernel
theorem dX10_mass_79 : decode cX10_mass 79 = .ok (.ireturn, 1) := by decide +kernel
theorem dX10_mass_80 : decode cX10_mass 80 = .ok (.aload_n 0, 1) := by decide +kernel
theorem dX10_mass_81 : decode cX10_mass 81 = .ok (.getfield 86, 3) := by decide +kernel
theorem dX10_mass_84 : decode cX10_mass 84 = .ok (.iload_n 1, 1) := by decide +kernel
theorem dX10_mass_85 : decode cX10_mass 85 = .ok (.aaload, 1) := by decide +kernel
theorem dX10_mass_86 : decode cX10_mass 86 = .ok (.iload_n 2, 1) := by decide +kernel
theorem dX10_mass_87 : decode cX10_mass 87 = .ok (.bipush 10, 2) := by decide +kernel
theorem dX10_mass_89 : decode cX10_mass 89 = .ok (.idiv, 1) := by decide +kernel
theorem dX10_mass_90 : decode cX10_mass 90 = .ok (.aaload, 1) := by decide +kernel
theorem dX10_mass_91 : decode cX10_mass 91 = .ok (.iload_n 2, 1) := by decide +kernel
theorem dX10_mass_92 : decode cX10_mass 92 = .ok (.bipush 10, 2) := by decide +kernel
theorem dX10_mass_94 : decode cX10_mass 94 = .ok (.irem, 1) := by decide +kernel
theorem dX10_mass_95 : decode cX10_mass 95 = .ok (.iaload, 1) := by decide +kernel
theorem dX10_mass_96 : decode cX10_mass 96 = .ok (.istore 5, 2) := by decide +kernel
theorem dX10_mass_98 : decode cX10_mass 98 = .ok (.aload_n 0, 1) := by decide +kernel
theorem dX10_mass_99 : decode cX10_mass 99 = .ok (.getfield 86, 3) := by decide +kernel
theorem dX10_mass_102 : decode cX10_mass 102 = .ok (.iload_n 1, 1) := by decide +kernel
theorem dX10_mass_103 : decode cX10_mass 103 = .ok (.aaload, 1) := by decide +kernel
theorem dX10_mass_104 : decode cX10_mass 104 = .ok (.iload_n 2, 1) := by decide +kernel
theorem dX10_mass_105 : decode cX10_mass 105 = .ok (.bipush 10, 2) := by decide +kernel
theorem dX10_mass_107 : decode cX10_mass 107 = .ok (.idiv, 1) := by decide +kernel
theorem dX10_mass_108 : decode cX10_mass 108 = .ok (.aaload, 1) := by decide +kernel
theorem dX10_mass_109 : decode cX10_mass 109 = .ok (.iload_n 2, 1) := by decide +kernel
theorem dX10_mass_110 : decode cX10_mass 110 = .ok (.bipush 10, 2) := by decide +kernel
theorem dX10_mass_112 : decode cX10_mass 112 = .ok (.irem, 1) := by decide +kernel
theorem dX10_mass_113 : decode cX10_mass 113 = .ok (.iload_n 3, 1) := by decide +kernel
theorem dX10_mass_114 : decode cX10_mass 114 = .ok (.iastore, 1) := by decide +kernel
theorem dX10_mass_115 : decode cX10_mass 115 = .ok (.iload 5, 2) := by decide +kernel
theorem dX10_mass_117 : decode cX10_mass 117 = .ok (.ireturn, 1) := by decide +kernel
theorem dX10_own_0 : decode cX10_own 0 = .ok (.aload_n 0, 1) := by decide +kernel
theorem dX10_own_1 : decode cX10_own 1 = .ok (.getfield 86, 3) := by decide +kernel
theorem dX10_own_4 : decode cX10_own 4 = .ok (.iload_n 1, 1) := by decide +kernel
theorem dX10_own_5 : decode cX10_own 5 = .ok (.aaload, 1) := by decide +kernel
theorem dX10_own_6 : decode cX10_own 6 = .ok (.iload_n 3, 1) := by decide +kernel
theorem dX10_own_7 : decode cX10_own 7 = .ok (.aaload, 1) := by decide +kernel
theorem dX10_own_8 : decode cX10_own 8 = .ok (.iload 4, 2) := by decide +kernel
theorem dX10_own_10 : decode cX10_own 10 = .ok (.iaload, 1) := by decide +kernel
theorem dX10_own_11 : decode cX10_own 11 = .ok (.istore 5, 2) := by decide +kernel
theorem dX10_own_13 : decode cX10_own 13 = .ok (.aload_n 0, 1) := by decide +kernel
theorem dX10_own_14 : decode cX10_own 14 = .ok (.iload_n 2, 1) := by decide +kernel
theorem dX10_own_15 : decode cX10_own 15 = .ok (.iload_n 3, 1) := by decide +kernel
theorem dX10_own_16 : decode cX10_own 16 = .ok (.iload 4, 2) := by decide +kernel
theorem dX10_own_18 : decode cX10_own 18 = .ok (.invokevirtual 159, 3) := by decide +kernel
theorem dX10_own_21 : decode cX10_own 21 = .ok (.bipush 10, 2) := by decide +kernel
theorem dX10_own_23 : decode cX10_own 23 = .ok (.iload 5, 2) := by decide +kernel
theorem dX10_own_25 : decode cX10_own 25 = .ok (.imul, 1) := by decide +kernel
theorem dX10_own_26 : decode cX10_own 26 = .ok (.aload_n 0, 1) := by decide +kernel
theorem dX10_own_27 : decode cX10_own 27 = .ok (.getfield 37, 3) := by decide +kernel
theorem dX10_own_30 : decode cX10_own 30 = .ok (.iload_n 2, 1) := by decide +kernel
theorem dX10_own_31 : decode cX10_own 31 = .ok (.aaload, 1) := by decide +kernel
theorem dX10_own_32 : decode cX10_own 32 = .ok (.iload_n 3, 1) := by decide +kernel
theorem dX10_own_33 : decode cX10_own 33 = .ok (.aaload, 1) := by decide +kernel
theorem dX10_own_34 : decode cX10_own 34 = .ok (.iload 4, 2) := by decide +kernel
theorem dX10_own_36 : decode cX10_own 36 = .ok (.iaload, 1) := by decide +kernel
theorem dX10_own_37 : decode cX10_own 37 = .ok (.aload_n 0, 1) := by decide +kernel
theorem dX10_own_38 : decode cX10_own 38 = .ok (.getfield 29, 3) := by decide +kernel
theorem dX10_own_41 : decode cX10_own 41 = .ok (.iload_n 2, 1) := by decide +kernel
theorem dX10_own_42 : decode cX10_own 42 = .ok (.iaload, 1) := by decide +kernel
theorem dX10_own_43 : decode cX10_own 43 = .ok (.iadd, 1) := by decide +kernel
theorem dX10_own_44 : decode cX10_own 44 = .ok (.idiv, 1) := by decide +kernel
theorem dX10_own_45 : decode cX10_own 45 = .ok (.invokestatic 202, 3) := by decide +kernel
theorem dX10_own_48 : decode cX10_own 48 = .ok (.istore 6, 2) := by decide +kernel
theorem dX10_own_50 : decode cX10_own 50 = .ok (.iconst 0, 1) := by decide +kernel
theorem dX10_own_51 : decode cX10_own 51 = .ok (.istore 7, 2) := by decide +kernel
theorem dX10_own_53 : decode cX10_own 53 = .ok (.iload 7, 2) := by decide +kernel
theorem dX10_own_55 : decode cX10_own 55 = .ok (.aload_n 0, 1) := by decide +kernel
theorem dX10_own_56 : decode cX10_own 56 = .ok (.getfield 48, 3) := by decide +kernel
theorem dX10_own_59 : decode cX10_own 59 = .ok (.iload_n 2, 1) := by decide +kernel
theorem dX10_own_60 : decode cX10_own 60 = .ok (.iaload, 1) := by decide +kernel
theorem dX10_own_61 : decode cX10_own 61 = .ok (.if_icmp .ge 46, 3) := by decide +kernel
theorem dX10_own_64 : decode cX10_own 64 = .ok (.aload_n 0, 1) := by decide +kernel
theorem dX10_own_65 : decode cX10_own 65 = .ok (.iload_n 2, 1) := by decide +kernel
theorem dX10_own_66 : decode cX10_own 66 = .ok (.iload 7, 2) := by decide +kernel
theorem dX10_own_68 : decode cX10_own 68 = .ok (.invokevirtual 216, 3) := by decide +kernel
theorem dX10_own_71 : decode cX10_own 71 = .ok (.istore 8, 2) := by decide +kernel
theorem dX10_own_73 : decode cX10_own 73 = .ok (.iload 6, 2) := by decide +kernel
theorem dX10_own_75 : decode cX10_own 75 = .ok (.iload 8, 2) := by decide +kernel
theorem dX10_own_77 : decode cX10_own 77 = .ok (.iload 5, 2) := by decide +kernel
theorem dX10_own_79 : decode cX10_own 79 = .ok (.iload 8, 2) := by decide +kernel
theorem dX10_own_81 : decode cX10_own 81 = .ok (.imul, 1) := by decide +kernel
theorem dX10_own_82 : decode cX10_own 82 = .ok (.bipush 20, 2) := by decide +kernel
theorem dX10_own_84 : decode cX10_own 84 = .ok (.aload_n 0, 1) := by decide +kernel
theorem dX10_own_85 : decode cX10_own 85 = .ok (.getfield 57, 3) := by decide +kernel
theorem dX10_own_88 : decode cX10_own 88 = .ok (.iload_n 2, 1) := by decide +kernel
theorem dX10_own_89 : decode cX10_own 89 = .ok (.aaload, 1) := by decide +kernel
theorem dX10_own_90 : decode cX10_own 90 = .ok (.iload 7, 2) := by decide +kernel
theorem dX10_own_92 : decode cX10_own 92 = .ok (.iaload, 1) := by decide +kernel
theorem dX10_own_93 : decode cX10_own 93 = .ok (.imul, 1) := by decide +kernel
theorem dX10_own_94 : decode cX10_own 94 = .ok (.idiv, 1) := by decide +kernel
theorem dX10_own_95 : decode cX10_own 95 = .ok (.invokestatic 202, 3) := by decide +kernel
theorem dX10_own_98 : decode cX10_own 98 = .ok (.iadd, 1) := by decide +kernel
theorem dX10_own_99 : decode cX10_own 99 = .ok (.istore 6, 2) := by decide +kernel
theorem dX10_own_101 : decode cX10_own 101 = .ok (.iinc 7 1, 3) := by decide +kernel
theorem dX10_own_104 : decode cX10_own 104 = .ok (.goto (-51), 3) := by decide +kernel
theorem dX10_own_107 : decode cX10_own 107 = .ok (.iload 6, 2) := by decide +kernel
theorem dX10_own_109 : decode cX10_own 109 = .ok (.ireturn, 1) := by decide +kernel
theorem dX10_sinking_0 : decode cX10_sinking 0 = .ok (.iconst 0, 1) := by decide +kernel
theorem dX10_sinking_1 : decode cX10_sinking 1 = .ok (.istore 5, 2) := by decide +kernel
theorem dX10_sinking_3 : decode cX10_sinking 3 = .ok (.iconst 0, 1) := by decide +kernel
theorem dX10_sinking_4 : decode cX10_sinking 4 = .ok (.istore 6, 2) := by decide +kernel
theorem dX10_sinking_6 : decode cX10_sinking 6 = .ok (.iload 6, 2) := by decide +kernel
theorem dX10_sinking_8 : decode cX10_sinking 8 = .ok (.aload_n 0, 1) := by decide +kernel
theorem dX10_sinking_9 : decode cX10_sinking 9 = .ok (.getfield 9, 3) := by decide +kernel
theorem dX10_sinking_12 : decode cX10_sinking 12 = .ok (.iload_n 2, 1) := by decide +kernel
theorem dX10_sinking_13 : decode cX10_sinking 13 = .ok (.iaload, 1) := by decide +kernel
theorem dX10_sinking_14 : decode cX10_sinking 14 = .ok (.if_icmp .ge 66, 3) := by decide +kernel
theorem dX10_sinking_17 : decode cX10_sinking 17 = .ok (.iconst 0, 1) := by decide +kernel
theorem dX10_sinking_18 : decode cX10_sinking 18 = .ok (.istore 7, 2) := by decide +kernel
theorem dX10_sinking_20 : decode cX10_sinking 20 = .ok (.iload 7, 2) := by decide +kernel
theorem dX10_sinking_22 : decode cX10_sinking 22 = .ok (.aload_n 0, 1) := by decide +kernel
theorem dX10_sinking_23 : decode cX10_sinking 23 = .ok (.getfield 13, 3) := by decide +kernel
theorem dX10_sinking_26 : decode cX10_sinking 26 = .ok (.iload_n 2, 1) := by decide +kernel
theorem dX10_sinking_27 : decode cX10_sinking 27 = .ok (.iaload, 1) := by decide +kernel
theorem dX10_sinking_28 : decode cX10_sinking 28 = .ok (.if_icmp .ge 46, 3) := by decide +kernel
theorem dX10_sinking_31 : decode cX10_sinking 31 = .ok (.iload 5, 2) := by decide +kernel
theorem dX10_sinking_33 : decode cX10_sinking 33 = .ok (.aload_n 0, 1) := by decide +kernel
theorem dX10_sinking_34 : decode cX10_sinking 34 = .ok (.iload_n 1, 1) := by decide +kernel
theorem dX10_sinking_35 : decode cX10_sinking 35 = .ok (.iload_n 2, 1) := by decide +kernel
theorem dX10_sinking_36 : decode cX10_sinking 36 = .ok (.iload 6, 2) := by decide +kernel
theorem dX10_sinking_38 : decode cX10_sinking 38 = .ok (.iload 7, 2) := by decide +kernel
theorem dX10_sinking_40 : decode cX10_sinking 40 = .ok (.invokevirtual 229, 3) := by decide +kernel
theorem dX10_sinking_43 : decode cX10_sinking 43 = .ok (.bipush 8, 2) := by decide +kernel
theorem dX10_sinking_45 : decode cX10_sinking 45 = .ok (.iload 6, 2) := by decide +kernel
theorem dX10_sinking_47 : decode cX10_sinking 47 = .ok (.iload_n 3, 1) := by decide +kernel
theorem dX10_sinking_48 : decode cX10_sinking 48 = .ok (.isub, 1) := by decide +kernel
theorem dX10_sinking_49 : decode cX10_sinking 49 = .ok (.invokestatic 167, 3) := by decide +kernel
theorem dX10_sinking_52 : decode cX10_sinking 52 = .ok (.iload 7, 2) := by decide +kernel
theorem dX10_sinking_54 : decode cX10_sinking 54 = .ok (.iload 4, 2) := by decide +kernel
theorem dX10_sinking_56 : decode cX10_sinking 56 = .ok (.isub, 1) := by decide +kernel
theorem dX10_sinking_57 : decode cX10_sinking 57 = .ok (.invokestatic 167, 3) := by decide +kernel
theorem dX10_sinking_60 : decode cX10_sinking 60 = .ok (.iadd, 1) := by decide +kernel
theorem dX10_sinking_61 : decode cX10_sinking 61 = .ok (.imul, 1) := by decide +kernel
theorem dX10_sinking_62 : decode cX10_sinking 62 = .ok (.isub, 1) := by decide +kernel
theorem dX10_sinking_63 : decode cX10_sinking 63 = .ok (.invokestatic 185, 3) := by decide +kernel
theorem dX10_sinking_66 : decode cX10_sinking 66 = .ok (.istore 5, 2) := by decide +kernel
theorem dX10_sinking_68 : decode cX10_sinking 68 = .ok (.iinc 7 1, 3) := by decide +kernel
theorem dX10_sinking_71 : decode cX10_sinking 71 = .ok (.goto (-51), 3) := by decide +kernel
theorem dX10_sinking_74 : decode cX10_sinking 74 = .ok (.iinc 6 1, 3) := by decide +kernel
theorem dX10_sinking_77 : decode cX10_sinking 77 = .ok (.goto (-71), 3) := by decide +kernel
theorem dX10_sinking_80 : decode cX10_sinking 80 = .ok (.iload 5, 2) := by decide +kernel
theorem dX10_sinking_82 : decode cX10_sinking 82 = .ok (.ireturn, 1) := by decide +kernel
theorem dX10_pressing_0 : decode cX10_pressing 0 = .ok (.bipush 100, 2) := by decide +kernel
theorem dX10_pressing_2 : decode cX10_pressing 2 = .ok (.aload_n 0, 1) := by decide +kernel
theorem dX10_pressing_3 : decode cX10_pressing 3 = .ok (.getfield 86, 3) := by decide +kernel
theorem dX10_pressing_6 : decode cX10_pressing 6 = .ok (.iload_n 1, 1) := by decide +kernel
theorem dX10_pressing_7 : decode cX10_pressing 7 = .ok (.aaload, 1) := by decide +kernel
theorem dX10_pressing_8 : decode cX10_pressing 8 = .ok (.iload_n 3, 1) := by decide +kernel
theorem dX10_pressing_9 : decode cX10_pressing 9 = .ok (.aaload, 1) := by decide +kernel
theorem dX10_pressing_10 : decode cX10_pressing 10 = .ok (.iload 4, 2) := by decide +kernel
theorem dX10_pressing_12 : decode cX10_pressing 12 = .ok (.iaload, 1) := by decide +kernel
theorem dX10_pressing_13 : decode cX10_pressing 13 = .ok (.imul, 1) := by decide +kernel
theorem dX10_pressing_14 : decode cX10_pressing 14 = .ok (.bipush 10, 2) := by decide +kernel
theorem dX10_pressing_16 : decode cX10_pressing 16 = .ok (.aload_n 0, 1) := by decide +kernel
theorem dX10_pressing_17 : decode cX10_pressing 17 = .ok (.iload_n 1, 1) := by decide +kernel
theorem dX10_pressing_18 : decode cX10_pressing 18 = .ok (.iload_n 2, 1) := by decide +kernel
theorem dX10_pressing_19 : decode cX10_pressing 19 = .ok (.iload_n 3, 1) := by decide +kernel
theorem dX10_pressing_20 : decode cX10_pressing 20 = .ok (.iload 4, 2) := by decide +kernel
theorem dX10_pressing_22 : decode cX10_pressing 22 = .ok (.invokevirtual 232, 3) := by decide +kernel
theorem dX10_pressing_25 : decode cX10_pressing 25 = .ok (.iadd, 1) := by decide +kernel
theorem dX10_pressing_26 : decode cX10_pressing 26 = .ok (.idiv, 1) := by decide +kernel
theorem dX10_pressing_27 : decode cX10_pressing 27 = .ok (.ireturn, 1) := by decide +kernel
theorem dX10_sinks_0 : decode cX10_sinks 0 = .ok (.aload_n 0, 1) := by decide +kernel
theorem dX10_sinks_1 : decode cX10_sinks 1 = .ok (.aload_n 0, 1) := by decide +kernel
theorem dX10_sinks_2 : decode cX10_sinks 2 = .ok (.iload_n 1, 1) := by decide +kernel
theorem dX10_sinks_3 : decode cX10_sinks 3 = .ok (.invokevirtual 226, 3) := by decide +kernel
theorem dX10_sinks_6 : decode cX10_sinks 6 = .ok (.ifCond .ne 12, 3) := by decide +kernel
theorem dX10_sinks_9 : decode cX10_sinks 9 = .ok (.aload_n 0, 1) := by decide +kernel
theorem dX10_sinks_10 : decode cX10_sinks 10 = .ok (.iload_n 2, 1) := by decide +kernel
theorem dX10_sinks_11 : decode cX10_sinks 11 = .ok (.iload_n 3, 1) := by decide +kernel
theorem dX10_sinks_12 : decode cX10_sinks 12 = .ok (.invokevirtual 153, 3) := by decide +kernel
theorem dX10_sinks_15 : decode cX10_sinks 15 = .ok (.ifCond .eq 7, 3) := by decide +kernel
theorem dX10_sinks_18 : decode cX10_sinks 18 = .ok (.iconst 1, 1) := by decide +kernel
theorem dX10_sinks_19 : decode cX10_sinks 19 = .ok (.goto 4, 3) := by decide +kernel
theorem dX10_sinks_22 : decode cX10_sinks 22 = .ok (.iconst 0, 1) := by decide +kernel
theorem dX10_sinks_23 : decode cX10_sinks 23 = .ok (.iconst 1, 1) := by decide +kernel
theorem dX10_sinks_24 : decode cX10_sinks 24 = .ok (.invokevirtual 126, 3) := by decide +kernel
theorem dX10_sinks_27 : decode cX10_sinks 27 = .ok (.ifCond .ne 24, 3) := by decide +kernel
theorem dX10_sinks_30 : decode cX10_sinks 30 = .ok (.aload_n 0, 1) := by decide +kernel
theorem dX10_sinks_31 : decode cX10_sinks 31 = .ok (.aload_n 0, 1) := by decide +kernel
theorem dX10_sinks_32 : decode cX10_sinks 32 = .ok (.iload_n 2, 1) := by decide +kernel
theorem dX10_sinks_33 : decode cX10_sinks 33 = .ok (.invokevirtual 199, 3) := by decide +kernel
theorem dX10_sinks_36 : decode cX10_sinks 36 = .ok (.ifCond .ne 7, 3) := by decide +kernel
theorem dX10_sinks_39 : decode cX10_sinks 39 = .ok (.iconst 1, 1) := by decide +kernel
theorem dX10_sinks_40 : decode cX10_sinks 40 = .ok (.goto 4, 3) := by decide +kernel
theorem dX10_sinks_43 : decode cX10_sinks 43 = .ok (.iconst 0, 1) := by decide +kernel
theorem dX10_sinks_44 : decode cX10_sinks 44 = .ok (.iconst 2, 1) := by decide +kernel
theorem dX10_sinks_45 : decode cX10_sinks 45 = .ok (.invokevirtual 126, 3) := by decide +kernel
theorem dX10_sinks_48 : decode cX10_sinks 48 = .ok (.ifCond .eq 7, 3) := by decide +kernel
theorem dX10_sinks_51 : decode cX10_sinks 51 = .ok (.iconst 0, 1) := by decide +kernel
theorem dX10_sinks_52 : decode cX10_sinks 52 = .ok (.goto 17, 3) := by decide +kernel
theorem dX10_sinks_55 : decode cX10_sinks 55 = .ok (.aload_n 0, 1) := by decide +kernel
theorem dX10_sinks_56 : decode cX10_sinks 56 = .ok (.iload_n 1, 1) := by decide +kernel
theorem dX10_sinks_57 : decode cX10_sinks 57 = .ok (.iload_n 2, 1) := by decide +kernel
theorem dX10_sinks_58 : decode cX10_sinks 58 = .ok (.iload_n 3, 1) := by decide +kernel
theorem dX10_sinks_59 : decode cX10_sinks 59 = .ok (.bipush 10, 2) := by decide +kernel
theorem dX10_sinks_61 : decode cX10_sinks 61 = .ok (.idiv, 1) := by decide +kernel
theorem dX10_sinks_62 : decode cX10_sinks 62 = .ok (.iload_n 3, 1) := by decide +kernel
theorem dX10_sinks_63 : decode cX10_sinks 63 = .ok (.bipush 10, 2) := by decide +kernel
theorem dX10_sinks_65 : decode cX10_sinks 65 = .ok (.irem, 1) := by decide +kernel
theorem dX10_sinks_66 : decode cX10_sinks 66 = .ok (.invokevirtual 232, 3) := by decide +kernel
theorem dX10_sinks_69 : decode cX10_sinks 69 = .ok (.ireturn, 1) := by decide +kernel
theorem dX10_pressure_0 : decode cX10_pressure 0 = .ok (.aload_n 0, 1) := by decide +kernel
theorem dX10_pressure_1 : decode cX10_pressure 1 = .ok (.aload_n 0, 1) := by decide +kernel
theorem dX10_pressure_2 : decode cX10_pressure 2 = .ok (.iload_n 1, 1) := by decide +kernel
theorem dX10_pressure_3 : decode cX10_pressure 3 = .ok (.invokevirtual 226, 3) := by decide +kernel
theorem dX10_pressure_6 : decode cX10_pressure 6 = .ok (.ifCond .ne 12, 3) := by decide +kernel
theorem dX10_pressure_9 : decode cX10_pressure 9 = .ok (.aload_n 0, 1) := by decide +kernel
theorem dX10_pressure_10 : decode cX10_pressure 10 = .ok (.iload_n 2, 1) := by decide +kernel
theorem dX10_pressure_11 : decode cX10_pressure 11 = .ok (.iload_n 3, 1) := by decide +kernel
theorem dX10_pressure_12 : decode cX10_pressure 12 = .ok (.invokevirtual 153, 3) := by decide +kernel
theorem dX10_pressure_15 : decode cX10_pressure 15 = .ok (.ifCond .eq 7, 3) := by decide +kernel
theorem dX10_pressure_18 : decode cX10_pressure 18 = .ok (.iconst 1, 1) := by decide +kernel
theorem dX10_pressure_19 : decode cX10_pressure 19 = .ok (.goto 4, 3) := by decide +kernel
theorem dX10_pressure_22 : decode cX10_pressure 22 = .ok (.iconst 0, 1) := by decide +kernel
theorem dX10_pressure_23 : decode cX10_pressure 23 = .ok (.iconst 1, 1) := by decide +kernel
theorem dX10_pressure_24 : decode cX10_pressure 24 = .ok (.invokevirtual 126, 3) := by decide +kernel
theorem dX10_pressure_27 : decode cX10_pressure 27 = .ok (.ifCond .ne 24, 3) := by decide +kernel
theorem dX10_pressure_30 : decode cX10_pressure 30 = .ok (.aload_n 0, 1) := by decide +kernel
theorem dX10_pressure_31 : decode cX10_pressure 31 = .ok (.aload_n 0, 1) := by decide +kernel
theorem dX10_pressure_32 : decode cX10_pressure 32 = .ok (.iload_n 2, 1) := by decide +kernel
theorem dX10_pressure_33 : decode cX10_pressure 33 = .ok (.invokevirtual 199, 3) := by decide +kernel
theorem dX10_pressure_36 : decode cX10_pressure 36 = .ok (.ifCond .ne 7, 3) := by decide +kernel
theorem dX10_pressure_39 : decode cX10_pressure 39 = .ok (.iconst 1, 1) := by decide +kernel
theorem dX10_pressure_40 : decode cX10_pressure 40 = .ok (.goto 4, 3) := by decide +kernel
theorem dX10_pressure_43 : decode cX10_pressure 43 = .ok (.iconst 0, 1) := by decide +kernel
theorem dX10_pressure_44 : decode cX10_pressure 44 = .ok (.iconst 2, 1) := by decide +kernel
theorem dX10_pressure_45 : decode cX10_pressure 45 = .ok (.invokevirtual 126, 3) := by decide +kernel
theorem dX10_pressure_48 : decode cX10_pressure 48 = .ok (.ifCond .eq 7, 3) := by decide +kernel
theorem dX10_pressure_51 : decode cX10_pressure 51 = .ok (.iconst 0, 1) := by decide +kernel
theorem dX10_pressure_52 : decode cX10_pressure 52 = .ok (.goto 17, 3) := by decide +kernel
theorem dX10_pressure_55 : decode cX10_pressure 55 = .ok (.aload_n 0, 1) := by decide +kernel
theorem dX10_pressure_56 : decode cX10_pressure 56 = .ok (.iload_n 1, 1) := by decide +kernel
theorem dX10_pressure_57 : decode cX10_pressure 57 = .ok (.iload_n 2, 1) := by decide +kernel
theorem dX10_pressure_58 : decode cX10_pressure 58 = .ok (.iload_n 3, 1) := by decide +kernel
theorem dX10_pressure_59 : decode cX10_pressure 59 = .ok (.bipush 10, 2) := by decide +kernel
theorem dX10_pressure_61 : decode cX10_pressure 61 = .ok (.idiv, 1) := by decide +kernel
theorem dX10_pressure_62 : decode cX10_pressure 62 = .ok (.iload_n 3, 1) := by decide +kernel
theorem dX10_pressure_63 : decode cX10_pressure 63 = .ok (.bipush 10, 2) := by decide +kernel
theorem dX10_pressure_65 : decode cX10_pressure 65 = .ok (.irem, 1) := by decide +kernel
theorem dX10_pressure_66 : decode cX10_pressure 66 = .ok (.invokevirtual 235, 3) := by decide +kernel
theorem dX10_pressure_69 : decode cX10_pressure 69 = .ok (.ireturn, 1) := by decide +kernel
theorem dX10_comfort_0 : decode cX10_comfort 0 = .ok (.aload_n 0, 1) := by decide +kernel
theorem dX10_comfort_1 : decode cX10_comfort 1 = .ok (.aload_n 0, 1) := by decide +kernel
theorem dX10_comfort_2 : decode cX10_comfort 2 = .ok (.iload_n 1, 1) := by decide +kernel
theorem dX10_comfort_3 : decode cX10_comfort 3 = .ok (.invokevirtual 226, 3) := by decide +kernel
theorem dX10_comfort_6 : decode cX10_comfort 6 = .ok (.ifCond .ne 11, 3) := by decide +kernel
theorem dX10_comfort_9 : decode cX10_comfort 9 = .ok (.aload_n 0, 1) := by decide +kernel
theorem dX10_comfort_10 : decode cX10_comfort 10 = .ok (.iload_n 2, 1) := by decide +kernel
theorem dX10_comfort_11 : decode cX10_comfort 11 = .ok (.invokevirtual 122, 3) := by decide +kernel
theorem dX10_comfort_14 : decode cX10_comfort 14 = .ok (.ifCond .eq 7, 3) := by decide +kernel
theorem dX10_comfort_17 : decode cX10_comfort 17 = .ok (.iconst 1, 1) := by decide +kernel
theorem dX10_comfort_18 : decode cX10_comfort 18 = .ok (.goto 4, 3) := by decide +kernel
theorem dX10_comfort_21 : decode cX10_comfort 21 = .ok (.iconst 0, 1) := by decide +kernel
theorem dX10_comfort_22 : decode cX10_comfort 22 = .ok (.iconst 1, 1) := by decide +kernel
theorem dX10_comfort_23 : decode cX10_comfort 23 = .ok (.invokevirtual 126, 3) := by decide +kernel
theorem dX10_comfort_26 : decode cX10_comfort 26 = .ok (.ifCond .ne 24, 3) := by decide +kernel
theorem dX10_comfort_29 : decode cX10_comfort 29 = .ok (.aload_n 0, 1) := by decide +kernel
theorem dX10_comfort_30 : decode cX10_comfort 30 = .ok (.aload_n 0, 1) := by decide +kernel
theorem dX10_comfort_31 : decode cX10_comfort 31 = .ok (.iload_n 2, 1) := by decide +kernel
theorem dX10_comfort_32 : decode cX10_comfort 32 = .ok (.invokevirtual 199, 3) := by decide +kernel
theorem dX10_comfort_35 : decode cX10_comfort 35 = .ok (.ifCond .ne 7, 3) := by decide +kernel
theorem dX10_comfort_38 : decode cX10_comfort 38 = .ok (.iconst 1, 1) := by decide +kernel
theorem dX10_comfort_39 : decode cX10_comfort 39 = .ok (.goto 4, 3) := by decide +kernel
theorem dX10_comfort_42 : decode cX10_comfort 42 = .ok (.iconst 0, 1) := by decide +kernel
theorem dX10_comfort_43 : decode cX10_comfort 43 = .ok (.iconst 2, 1) := by decide +kernel
theorem dX10_comfort_44 : decode cX10_comfort 44 = .ok (.invokevirtual 126, 3) := by decide +kernel
theorem dX10_comfort_47 : decode cX10_comfort 47 = .ok (.ifCond .eq 5, 3) := by decide +kernel
theorem dX10_comfort_50 : decode cX10_comfort 50 = .ok (.iconst 0, 1) := by decide +kernel
theorem dX10_comfort_51 : decode cX10_comfort 51 = .ok (.ireturn, 1) := by decide +kernel
theorem dX10_comfort_52 : decode cX10_comfort 52 = .ok (.iconst 0, 1) := by decide +kernel
theorem dX10_comfort_53 : decode cX10_comfort 53 = .ok (.istore_n 3, 1) := by decide +kernel
theorem dX10_comfort_54 : decode cX10_comfort 54 = .ok (.iconst 0, 1) := by decide +kernel
theorem dX10_comfort_55 : decode cX10_comfort 55 = .ok (.istore 4, 2) := by decide +kernel
theorem dX10_comfort_57 : decode cX10_comfort 57 = .ok (.iload 4, 2) := by decide +kernel
theorem dX10_comfort_59 : decode cX10_comfort 59 = .ok (.aload_n 0, 1) := by decide +kernel
theorem dX10_comfort_60 : decode cX10_comfort 60 = .ok (.getfield 9, 3) := by decide +kernel
theorem dX10_comfort_63 : decode cX10_comfort 63 = .ok (.iload_n 2, 1) := by decide +kernel
theorem dX10_comfort_64 : decode cX10_comfort 64 = .ok (.iaload, 1) := by decide +kernel
theorem dX10_comfort_65 : decode cX10_comfort 65 = .ok (.if_icmp .ge 67, 3) := by decide +kernel
theorem dX10_comfort_68 : decode cX10_comfort 68 = .ok (.iconst 0, 1) := by decide +kernel
theorem dX10_comfort_69 : decode cX10_comfort 69 = .ok (.istore 5, 2) := by decide +kernel
theorem dX10_comfort_71 : decode cX10_comfort 71 = .ok (.iload 5, 2) := by decide +kernel
theorem dX10_comfort_73 : decode cX10_comfort 73 = .ok (.aload_n 0, 1) := by decide +kernel
theorem dX10_comfort_74 : decode cX10_comfort 74 = .ok (.getfield 13, 3) := by decide +kernel
theorem dX10_comfort_77 : decode cX10_comfort 77 = .ok (.iload_n 2, 1) := by decide +kernel
theorem dX10_comfort_78 : decode cX10_comfort 78 = .ok (.iaload, 1) := by decide +kernel
theorem dX10_comfort_79 : decode cX10_comfort 79 = .ok (.if_icmp .ge 47, 3) := by decide +kernel
theorem dX10_comfort_82 : decode cX10_comfort 82 = .ok (.iload_n 3, 1) := by decide +kernel
theorem dX10_comfort_83 : decode cX10_comfort 83 = .ok (.aload_n 0, 1) := by decide +kernel
theorem dX10_comfort_84 : decode cX10_comfort 84 = .ok (.getfield 86, 3) := by decide +kernel
theorem dX10_comfort_87 : decode cX10_comfort 87 = .ok (.iload_n 1, 1) := by decide +kernel
theorem dX10_comfort_88 : decode cX10_comfort 88 = .ok (.aaload, 1) := by decide +kernel
theorem dX10_comfort_89 : decode cX10_comfort 89 = .ok (.iload 4, 2) := by decide +kernel
theorem dX10_comfort_91 : decode cX10_comfort 91 = .ok (.aaload, 1) := by decide +kernel
theorem dX10_comfort_92 : decode cX10_comfort 92 = .ok (.iload 5, 2) := by decide +kernel
theorem dX10_comfort_94 : decode cX10_comfort 94 = .ok (.iaload, 1) := by decide +kernel
theorem dX10_comfort_95 : decode cX10_comfort 95 = .ok (.ifCond .le 22, 3) := by decide +kernel
theorem dX10_comfort_98 : decode cX10_comfort 98 = .ok (.aload_n 0, 1) := by decide +kernel
theorem dX10_comfort_99 : decode cX10_comfort 99 = .ok (.iload_n 1, 1) := by decide +kernel
theorem dX10_comfort_100 : decode cX10_comfort 100 = .ok (.iload_n 2, 1) := by decide +kernel
theorem dX10_comfort_101 : decode cX10_comfort 101 = .ok (.iload 4, 2) := by decide +kernel
theorem dX10_comfort_103 : decode cX10_comfort 103 = .ok (.iload 5, 2) := by decide +kernel
theorem dX10_comfort_105 : decode cX10_comfort 105 = .ok (.invokevirtual 235, 3) := by decide +kernel
theorem dX10_comfort_108 : decode cX10_comfort 108 = .ok (.bipush 100, 2) := by decide +kernel
theorem dX10_comfort_110 : decode cX10_comfort 110 = .ok (.if_icmp .gt 7, 3) := by decide +kernel
theorem dX10_comfort_113 : decode cX10_comfort 113 = .ok (.iconst 1, 1) := by decide +kernel
theorem dX10_comfort_114 : decode cX10_comfort 114 = .ok (.goto 4, 3) := by decide +kernel
theorem dX10_comfort_117 : decode cX10_comfort 117 = .ok (.iconst 0, 1) := by decide +kernel
theorem dX10_comfort_118 : decode cX10_comfort 118 = .ok (.iadd, 1) := by decide +kernel
theorem dX10_comfort_119 : decode cX10_comfort 119 = .ok (.istore_n 3, 1) := by decide +kernel
theorem dX10_comfort_120 : decode cX10_comfort 120 = .ok (.iinc 5 1, 3) := by decide +kernel
theorem dX10_comfort_123 : decode cX10_comfort 123 = .ok (.goto (-52), 3) := by decide +kernel
theorem dX10_comfort_126 : decode cX10_comfort 126 = .ok (.iinc 4 1, 3) := by decide +kernel
theorem dX10_comfort_129 : decode cX10_comfort 129 = .ok (.goto (-72), 3) := by decide +kernel
theorem dX10_comfort_132 : decode cX10_comfort 132 = .ok (.iload_n 3, 1) := by decide +kernel
theorem dX10_comfort_133 : decode cX10_comfort 133 = .ok (.ireturn, 1) := by decide +kernel
theorem dX10_fit_0 : decode cX10_fit 0 = .ok (.aload_n 0, 1) := by decide +kernel
theorem dX10_fit_1 : decode cX10_fit 1 = .ok (.aload_n 0, 1) := by decide +kernel
theorem dX10_fit_2 : decode cX10_fit 2 = .ok (.iload_n 1, 1) := by decide +kernel
theorem dX10_fit_3 : decode cX10_fit 3 = .ok (.invokevirtual 226, 3) := by decide +kernel
theorem dX10_fit_6 : decode cX10_fit 6 = .ok (.ifCond .ne 19, 3) := by decide +kernel
theorem dX10_fit_9 : decode cX10_fit 9 = .ok (.aload_n 0, 1) := by decide +kernel
theorem dX10_fit_10 : decode cX10_fit 10 = .ok (.iload_n 2, 1) := by decide +kernel
theorem dX10_fit_11 : decode cX10_fit 11 = .ok (.invokevirtual 226, 3) := by decide +kernel
theorem dX10_fit_14 : decode cX10_fit 14 = .ok (.ifCond .ne 11, 3) := by decide +kernel
theorem dX10_fit_17 : decode cX10_fit 17 = .ok (.aload_n 0, 1) := by decide +kernel
theorem dX10_fit_18 : decode cX10_fit 18 = .ok (.iload_n 3, 1) := by decide +kernel
theorem dX10_fit_19 : decode cX10_fit 19 = .ok (.invokevirtual 122, 3) := by decide +kernel
theorem dX10_fit_22 : decode cX10_fit 22 = .ok (.ifCond .eq 7, 3) := by decide +kernel
theorem dX10_fit_25 : decode cX10_fit 25 = .ok (.iconst 1, 1) := by decide +kernel
theorem dX10_fit_26 : decode cX10_fit 26 = .ok (.goto 4, 3) := by decide +kernel
theorem dX10_fit_29 : decode cX10_fit 29 = .ok (.iconst 0, 1) := by decide +kernel
theorem dX10_fit_30 : decode cX10_fit 30 = .ok (.iconst 1, 1) := by decide +kernel
theorem dX10_fit_31 : decode cX10_fit 31 = .ok (.invokevirtual 126, 3) := by decide +kernel
theorem dX10_fit_34 : decode cX10_fit 34 = .ok (.ifCond .ne 24, 3) := by decide +kernel
theorem dX10_fit_37 : decode cX10_fit 37 = .ok (.aload_n 0, 1) := by decide +kernel
theorem dX10_fit_38 : decode cX10_fit 38 = .ok (.aload_n 0, 1) := by decide +kernel
theorem dX10_fit_39 : decode cX10_fit 39 = .ok (.iload_n 3, 1) := by decide +kernel
theorem dX10_fit_40 : decode cX10_fit 40 = .ok (.invokevirtual 199, 3) := by decide +kernel
theorem dX10_fit_43 : decode cX10_fit 43 = .ok (.ifCond .ne 7, 3) := by decide +kernel
theorem dX10_fit_46 : decode cX10_fit 46 = .ok (.iconst 1, 1) := by decide +kernel
theorem dX10_fit_47 : decode cX10_fit 47 = .ok (.goto 4, 3) := by decide +kernel
theorem dX10_fit_50 : decode cX10_fit 50 = .ok (.iconst 0, 1) := by decide +kernel
theorem dX10_fit_51 : decode cX10_fit 51 = .ok (.iconst 2, 1) := by decide +kernel
theorem dX10_fit_52 : decode cX10_fit 52 = .ok (.invokevirtual 126, 3) := by decide +kernel
theorem dX10_fit_55 : decode cX10_fit 55 = .ok (.ifCond .eq 5, 3) := by decide +kernel
theorem dX10_fit_58 : decode cX10_fit 58 = .ok (.iconst 0, 1) := by decide +kernel
theorem dX10_fit_59 : decode cX10_fit 59 = .ok (.ireturn, 1) := by decide +kernel
theorem dX10_fit_60 : decode cX10_fit 60 = .ok (.iconst 0, 1) := by decide +kernel
theorem dX10_fit_61 : decode cX10_fit 61 = .ok (.istore 4, 2) := by decide +kernel
theorem dX10_fit_63 : decode cX10_fit 63 = .ok (.iconst 0, 1) := by decide +kernel
theorem dX10_fit_64 : decode cX10_fit 64 = .ok (.istore 5, 2) := by decide +kernel
theorem dX10_fit_66 : decode cX10_fit 66 = .ok (.iload 5, 2) := by decide +kernel
theorem dX10_fit_68 : decode cX10_fit 68 = .ok (.aload_n 0, 1) := by decide +kernel
theorem dX10_fit_69 : decode cX10_fit 69 = .ok (.getfield 9, 3) := by decide +kernel
theorem dX10_fit_72 : decode cX10_fit 72 = .ok (.iload_n 3, 1) := by decide +kernel
theorem dX10_fit_73 : decode cX10_fit 73 = .ok (.iaload, 1) := by decide +kernel
theorem dX10_fit_74 : decode cX10_fit 74 = .ok (.if_icmp .ge 58, 3) := by decide +kernel
theorem dX10_fit_77 : decode cX10_fit 77 = .ok (.iconst 0, 1) := by decide +kernel
theorem dX10_fit_78 : decode cX10_fit 78 = .ok (.istore 6, 2) := by decide +kernel
theorem dX10_fit_80 : decode cX10_fit 80 = .ok (.iload 6, 2) := by decide +kernel
theorem dX10_fit_82 : decode cX10_fit 82 = .ok (.aload_n 0, 1) := by decide +kernel
theorem dX10_fit_83 : decode cX10_fit 83 = .ok (.getfield 13, 3) := by decide +kernel
theorem dX10_fit_86 : decode cX10_fit 86 = .ok (.iload_n 3, 1) := by decide +kernel
theorem dX10_fit_87 : decode cX10_fit 87 = .ok (.iaload, 1) := by decide +kernel
theorem dX10_fit_88 : decode cX10_fit 88 = .ok (.if_icmp .ge 38, 3) := by decide +kernel
theorem dX10_fit_91 : decode cX10_fit 91 = .ok (.iload 4, 2) := by decide +kernel
theorem dX10_fit_93 : decode cX10_fit 93 = .ok (.aload_n 0, 1) := by decide +kernel
theorem dX10_fit_94 : decode cX10_fit 94 = .ok (.iload_n 1, 1) := by decide +kernel
theorem dX10_fit_95 : decode cX10_fit 95 = .ok (.iload_n 3, 1) := by decide +kernel
theorem dX10_fit_96 : decode cX10_fit 96 = .ok (.iload 5, 2) := by decide +kernel
theorem dX10_fit_98 : decode cX10_fit 98 = .ok (.iload 6, 2) := by decide +kernel
theorem dX10_fit_100 : decode cX10_fit 100 = .ok (.invokevirtual 232, 3) := by decide +kernel
theorem dX10_fit_103 : decode cX10_fit 103 = .ok (.aload_n 0, 1) := by decide +kernel
theorem dX10_fit_104 : decode cX10_fit 104 = .ok (.iload_n 2, 1) := by decide +kernel
theorem dX10_fit_105 : decode cX10_fit 105 = .ok (.iload_n 3, 1) := by decide +kernel
theorem dX10_fit_106 : decode cX10_fit 106 = .ok (.iload 5, 2) := by decide +kernel
theorem dX10_fit_108 : decode cX10_fit 108 = .ok (.iload 6, 2) := by decide +kernel
theorem dX10_fit_110 : decode cX10_fit 110 = .ok (.invokevirtual 232, 3) := by decide +kernel
theorem dX10_fit_113 : decode cX10_fit 113 = .ok (.isub, 1) := by decide +kernel
theorem dX10_fit_114 : decode cX10_fit 114 = .ok (.invokestatic 167, 3) := by decide +kernel
theorem dX10_fit_117 : decode cX10_fit 117 = .ok (.iadd, 1) := by decide +kernel
theorem dX10_fit_118 : decode cX10_fit 118 = .ok (.istore 4, 2) := by decide +kernel
theorem dX10_fit_120 : decode cX10_fit 120 = .ok (.iinc 6 1, 3) := by decide +kernel
theorem dX10_fit_123 : decode cX10_fit 123 = .ok (.goto (-43), 3) := by decide +kernel
theorem dX10_fit_126 : decode cX10_fit 126 = .ok (.iinc 5 1, 3) := by decide +kernel
theorem dX10_fit_129 : decode cX10_fit 129 = .ok (.goto (-63), 3) := by decide +kernel
theorem dX10_fit_132 : decode cX10_fit 132 = .ok (.iload 4, 2) := by decide +kernel
theorem dX10_fit_134 : decode cX10_fit 134 = .ok (.ireturn, 1) := by decide +kernel
theorem dX10_cloth_0 : decode cX10_cloth 0 = .ok (.aload_n 0, 1) := by decide +kernel
theorem dX10_cloth_1 : decode cX10_cloth 1 = .ok (.iload_n 1, 1) := by decide +kernel
theorem dX10_cloth_2 : decode cX10_cloth 2 = .ok (.bipush 50, 2) := by decide +kernel
theorem dX10_cloth_4 : decode cX10_cloth 4 = .ok (.sipush 2000, 3) := by decide +kernel
theorem dX10_cloth_7 : decode cX10_cloth 7 = .ok (.invokestatic 118, 3) := by decide +kernel
theorem dX10_cloth_10 : decode cX10_cloth 10 = .ok (.ifCond .eq 13, 3) := by decide +kernel
theorem dX10_cloth_13 : decode cX10_cloth 13 = .ok (.iload_n 2, 1) := by decide +kernel
theorem dX10_cloth_14 : decode cX10_cloth 14 = .ok (.iconst 1, 1) := by decide +kernel
theorem dX10_cloth_15 : decode cX10_cloth 15 = .ok (.bipush 60, 2) := by decide +kernel
theorem dX10_cloth_17 : decode cX10_cloth 17 = .ok (.invokestatic 118, 3) := by decide +kernel
theorem dX10_cloth_20 : decode cX10_cloth 20 = .ok (.ifCond .ne 7, 3) := by decide +kernel
theorem dX10_cloth_23 : decode cX10_cloth 23 = .ok (.iconst 1, 1) := by decide +kernel
theorem dX10_cloth_24 : decode cX10_cloth 24 = .ok (.goto 4, 3) := by decide +kernel
theorem dX10_cloth_27 : decode cX10_cloth 27 = .ok (.iconst 0, 1) := by decide +kernel
theorem dX10_cloth_28 : decode cX10_cloth 28 = .ok (.iconst 1, 1) := by decide +kernel
theorem dX10_cloth_29 : decode cX10_cloth 29 = .ok (.invokevirtual 126, 3) := by decide +kernel
theorem dX10_cloth_32 : decode cX10_cloth 32 = .ok (.ifCond .ne 24, 3) := by decide +kernel
theorem dX10_cloth_35 : decode cX10_cloth 35 = .ok (.aload_n 0, 1) := by decide +kernel
theorem dX10_cloth_36 : decode cX10_cloth 36 = .ok (.aload_n 0, 1) := by decide +kernel
theorem dX10_cloth_37 : decode cX10_cloth 37 = .ok (.getfield 179, 3) := by decide +kernel
theorem dX10_cloth_40 : decode cX10_cloth 40 = .ok (.iconst 4, 1) := by decide +kernel
theorem dX10_cloth_41 : decode cX10_cloth 41 = .ok (.if_icmp .ne 7, 3) := by decide +kernel
theorem dX10_cloth_44 : decode cX10_cloth 44 = .ok (.iconst 1, 1) := by decide +kernel
theorem dX10_cloth_45 : decode cX10_cloth 45 = .ok (.goto 4, 3) := by decide +kernel
theorem dX10_cloth_48 : decode cX10_cloth 48 = .ok (.iconst 0, 1) := by decide +kernel
theorem dX10_cloth_49 : decode cX10_cloth 49 = .ok (.iconst 2, 1) := by decide +kernel
theorem dX10_cloth_50 : decode cX10_cloth 50 = .ok (.invokevirtual 126, 3) := by decide +kernel
theorem dX10_cloth_53 : decode cX10_cloth 53 = .ok (.ifCond .eq 5, 3) := by decide +kernel
theorem dX10_cloth_56 : decode cX10_cloth 56 = .ok (.iconst 0, 1) := by decide +kernel
theorem dX10_cloth_57 : decode cX10_cloth 57 = .ok (.ireturn, 1) := by decide +kernel
theorem dX10_cloth_58 : decode cX10_cloth 58 = .ok (.aload_n 0, 1) := by decide +kernel
theorem dX10_cloth_59 : decode cX10_cloth 59 = .ok (.getfield 89, 3) := by decide +kernel
theorem dX10_cloth_62 : decode cX10_cloth 62 = .ok (.aload_n 0, 1) := by decide +kernel
theorem dX10_cloth_63 : decode cX10_cloth 63 = .ok (.getfield 179, 3) := by decide +kernel
theorem dX10_cloth_66 : decode cX10_cloth 66 = .ok (.iload_n 1, 1) := by decide +kernel
theorem dX10_cloth_67 : decode cX10_cloth 67 = .ok (.iastore, 1) := by decide +kernel
theorem dX10_cloth_68 : decode cX10_cloth 68 = .ok (.aload_n 0, 1) := by decide +kernel
theorem dX10_cloth_69 : decode cX10_cloth 69 = .ok (.getfield 92, 3) := by decide +kernel
theorem dX10_cloth_72 : decode cX10_cloth 72 = .ok (.aload_n 0, 1) := by decide +kernel
theorem dX10_cloth_73 : decode cX10_cloth 73 = .ok (.getfield 179, 3) := by decide +kernel
theorem dX10_cloth_76 : decode cX10_cloth 76 = .ok (.iload_n 2, 1) := by decide +kernel
theorem dX10_cloth_77 : decode cX10_cloth 77 = .ok (.iastore, 1) := by decide +kernel
theorem dX10_cloth_78 : decode cX10_cloth 78 = .ok (.aload_n 0, 1) := by decide +kernel
theorem dX10_cloth_79 : decode cX10_cloth 79 = .ok (.dup, 1) := by decide +kernel
theorem dX10_cloth_80 : decode cX10_cloth 80 = .ok (.getfield 179, 3) := by decide +kernel
theorem dX10_cloth_83 : decode cX10_cloth 83 = .ok (.iconst 1, 1) := by decide +kernel
theorem dX10_cloth_84 : decode cX10_cloth 84 = .ok (.iadd, 1) := by decide +kernel
theorem dX10_cloth_85 : decode cX10_cloth 85 = .ok (.putfield 179, 3) := by decide +kernel
theorem dX10_cloth_88 : decode cX10_cloth 88 = .ok (.aload_n 0, 1) := by decide +kernel
theorem dX10_cloth_89 : decode cX10_cloth 89 = .ok (.getfield 179, 3) := by decide +kernel
theorem dX10_cloth_92 : decode cX10_cloth 92 = .ok (.iconst 1, 1) := by decide +kernel
theorem dX10_cloth_93 : decode cX10_cloth 93 = .ok (.isub, 1) := by decide +kernel
theorem dX10_cloth_94 : decode cX10_cloth 94 = .ok (.ireturn, 1) := by decide +kernel
theorem dX10_flaw_0 : decode cX10_flaw 0 = .ok (.aload_n 0, 1) := by decide +kernel
theorem dX10_flaw_1 : decode cX10_flaw 1 = .ok (.iload_n 1, 1) := by decide +kernel
theorem dX10_flaw_2 : decode cX10_flaw 2 = .ok (.iconst 0, 1) := by decide +kernel
theorem dX10_flaw_3 : decode cX10_flaw 3 = .ok (.aload_n 0, 1) := by decide +kernel
theorem dX10_flaw_4 : decode cX10_flaw 4 = .ok (.getfield 179, 3) := by decide +kernel
theorem dX10_flaw_7 : decode cX10_flaw 7 = .ok (.iconst 1, 1) := by decide +kernel
theorem dX10_flaw_8 : decode cX10_flaw 8 = .ok (.isub, 1) := by decide +kernel
theorem dX10_flaw_9 : decode cX10_flaw 9 = .ok (.invokestatic 118, 3) := by decide +kernel
theorem dX10_flaw_12 : decode cX10_flaw 12 = .ok (.ifCond .eq 19, 3) := by decide +kernel
theorem dX10_flaw_15 : decode cX10_flaw 15 = .ok (.iload_n 2, 1) := by decide +kernel
theorem dX10_flaw_16 : decode cX10_flaw 16 = .ok (.iconst 0, 1) := by decide +kernel
theorem dX10_flaw_17 : decode cX10_flaw 17 = .ok (.aload_n 0, 1) := by decide +kernel
theorem dX10_flaw_18 : decode cX10_flaw 18 = .ok (.getfield 89, 3) := by decide +kernel
theorem dX10_flaw_21 : decode cX10_flaw 21 = .ok (.iload_n 1, 1) := by decide +kernel
theorem dX10_flaw_22 : decode cX10_flaw 22 = .ok (.iaload, 1) := by decide +kernel
theorem dX10_flaw_23 : decode cX10_flaw 23 = .ok (.iconst 1, 1) := by decide +kernel
theorem dX10_flaw_24 : decode cX10_flaw 24 = .ok (.isub, 1) := by decide +kernel
theorem dX10_flaw_25 : decode cX10_flaw 25 = .ok (.invokestatic 118, 3) := by decide +kernel
theorem dX10_flaw_28 : decode cX10_flaw 28 = .ok (.ifCond .ne 7, 3) := by decide +kernel
theorem dX10_flaw_31 : decode cX10_flaw 31 = .ok (.iconst 1, 1) := by decide +kernel
theorem dX10_flaw_32 : decode cX10_flaw 32 = .ok (.goto 4, 3) := by decide +kernel
theorem dX10_flaw_35 : decode cX10_flaw 35 = .ok (.iconst 0, 1) := by decide +kernel
theorem dX10_flaw_36 : decode cX10_flaw 36 = .ok (.iconst 1, 1) := by decide +kernel
theorem dX10_flaw_37 : decode cX10_flaw 37 = .ok (.invokevirtual 126, 3) := by decide +kernel
theorem dX10_flaw_40 : decode cX10_flaw 40 = .ok (.ifCond .eq 5, 3) := by decide +kernel
theorem dX10_flaw_43 : decode cX10_flaw 43 = .ok (.iconst 0, 1) := by decide +kernel
theorem dX10_flaw_44 : decode cX10_flaw 44 = .ok (.ireturn, 1) := by decide +kernel
theorem dX10_flaw_45 : decode cX10_flaw 45 = .ok (.iload_n 2, 1) := by decide +kernel
theorem dX10_flaw_46 : decode cX10_flaw 46 = .ok (.aload_n 0, 1) := by decide +kernel
theorem dX10_flaw_47 : decode cX10_flaw 47 = .ok (.getfield 95, 3) := by decide +kernel
theorem dX10_flaw_50 : decode cX10_flaw 50 = .ok (.iload_n 1, 1) := by decide +kernel
theorem dX10_flaw_51 : decode cX10_flaw 51 = .ok (.iaload, 1) := by decide +kernel
theorem dX10_flaw_52 : decode cX10_flaw 52 = .ok (.if_icmp .ge 7, 3) := by decide +kernel
theorem dX10_flaw_55 : decode cX10_flaw 55 = .ok (.iconst 1, 1) := by decide +kernel
theorem dX10_flaw_56 : decode cX10_flaw 56 = .ok (.goto 4, 3) := by decide +kernel
theorem dX10_flaw_59 : decode cX10_flaw 59 = .ok (.iconst 0, 1) := by decide +kernel
theorem dX10_flaw_60 : decode cX10_flaw 60 = .ok (.istore_n 3, 1) := by decide +kernel
theorem dX10_flaw_61 : decode cX10_flaw 61 = .ok (.iconst 0, 1) := by decide +kernel
theorem dX10_flaw_62 : decode cX10_flaw 62 = .ok (.istore 4, 2) := by decide +kernel
theorem dX10_flaw_64 : decode cX10_flaw 64 = .ok (.iload 4, 2) := by decide +kernel
theorem dX10_flaw_66 : decode cX10_flaw 66 = .ok (.aload_n 0, 1) := by decide +kernel
theorem dX10_flaw_67 : decode cX10_flaw 67 = .ok (.getfield 98, 3) := by decide +kernel
theorem dX10_flaw_70 : decode cX10_flaw 70 = .ok (.iload_n 1, 1) := by decide +kernel
theorem dX10_flaw_71 : decode cX10_flaw 71 = .ok (.iaload, 1) := by decide +kernel
theorem dX10_flaw_72 : decode cX10_flaw 72 = .ok (.if_icmp .ge 30, 3) := by decide +kernel
theorem dX10_flaw_75 : decode cX10_flaw 75 = .ok (.iload_n 3, 1) := by decide +kernel
theorem dX10_flaw_76 : decode cX10_flaw 76 = .ok (.aload_n 0, 1) := by decide +kernel
theorem dX10_flaw_77 : decode cX10_flaw 77 = .ok (.getfield 101, 3) := by decide +kernel
theorem dX10_flaw_80 : decode cX10_flaw 80 = .ok (.iload_n 1, 1) := by decide +kernel
theorem dX10_flaw_81 : decode cX10_flaw 81 = .ok (.aaload, 1) := by decide +kernel
theorem dX10_flaw_82 : decode cX10_flaw 82 = .ok (.iload 4, 2) := by decide +kernel
theorem dX10_flaw_84 : decode cX10_flaw 84 = .ok (.iaload, 1) := by decide +kernel
theorem dX10_flaw_85 : decode cX10_flaw 85 = .ok (.iload_n 2, 1) := by decide +kernel
theorem dX10_flaw_86 : decode cX10_flaw 86 = .ok (.if_icmp .ne 7, 3) := by decide +kernel
theorem dX10_flaw_89 : decode cX10_flaw 89 = .ok (.iconst 1, 1) := by decide +kernel
theorem dX10_flaw_90 : decode cX10_flaw 90 = .ok (.goto 4, 3) := by decide +kernel
theorem dX10_flaw_93 : decode cX10_flaw 93 = .ok (.iconst 0, 1) := by decide +kernel
theorem dX10_flaw_94 : decode cX10_flaw 94 = .ok (.ior, 1) := by decide +kernel
theorem dX10_flaw_95 : decode cX10_flaw 95 = .ok (.istore_n 3, 1) := by decide +kernel
theorem dX10_flaw_96 : decode cX10_flaw 96 = .ok (.iinc 4 1, 3) := by decide +kernel
theorem dX10_flaw_99 : decode cX10_flaw 99 = .ok (.goto (-35), 3) := by decide +kernel
theorem dX10_flaw_102 : decode cX10_flaw 102 = .ok (.aload_n 0, 1) := by decide +kernel
theorem dX10_flaw_103 : decode cX10_flaw 103 = .ok (.iload_n 3, 1) := by decide +kernel
theorem dX10_flaw_104 : decode cX10_flaw 104 = .ok (.iconst 2, 1) := by decide +kernel
theorem dX10_flaw_105 : decode cX10_flaw 105 = .ok (.invokevirtual 126, 3) := by decide +kernel
theorem dX10_flaw_108 : decode cX10_flaw 108 = .ok (.ifCond .ne 27, 3) := by decide +kernel
theorem dX10_flaw_111 : decode cX10_flaw 111 = .ok (.aload_n 0, 1) := by decide +kernel
theorem dX10_flaw_112 : decode cX10_flaw 112 = .ok (.aload_n 0, 1) := by decide +kernel
theorem dX10_flaw_113 : decode cX10_flaw 113 = .ok (.getfield 98, 3) := by decide +kernel
theorem dX10_flaw_116 : decode cX10_flaw 116 = .ok (.iload_n 1, 1) := by decide +kernel
theorem dX10_flaw_117 : decode cX10_flaw 117 = .ok (.iaload, 1) := by decide +kernel
theorem dX10_flaw_118 : decode cX10_flaw 118 = .ok (.bipush 10, 2) := by decide +kernel
theorem dX10_flaw_120 : decode cX10_flaw 120 = .ok (.if_icmp .ne 7, 3) := by decide +kernel
theorem dX10_flaw_123 : decode cX10_flaw 123 = .ok (.iconst 1, 1) := by decide +kernel
theorem dX10_flaw_124 : decode cX10_flaw 124 = .ok (.goto 4, 3) := by decide +kernel
theorem dX10_flaw_127 : decode cX10_flaw 127 = .ok (.iconst 0, 1) := by decide +kernel
theorem dX10_flaw_128 : decode cX10_flaw 128 = .ok (.iconst 3, 1) := by decide +kernel
theorem dX10_flaw_129 : decode cX10_flaw 129 = .ok (.invokevirtual 126, 3) := by decide +kernel
theorem dX10_flaw_132 : decode cX10_flaw 132 = .ok (.ifCond .eq 5, 3) := by decide +kernel
theorem dX10_flaw_135 : decode cX10_flaw 135 = .ok (.iconst 0, 1) := by decide +kernel
theorem dX10_flaw_136 : decode cX10_flaw 136 = .ok (.ireturn, 1) := by decide +kernel
theorem dX10_flaw_137 : decode cX10_flaw 137 = .ok (.aload_n 0, 1) := by decide +kernel
theorem dX10_flaw_138 : decode cX10_flaw 138 = .ok (.getfield 101, 3) := by decide +kernel
theorem dX10_flaw_141 : decode cX10_flaw 141 = .ok (.iload_n 1, 1) := by decide +kernel
theorem dX10_flaw_142 : decode cX10_flaw 142 = .ok (.aaload, 1) := by decide +kernel
theorem dX10_flaw_143 : decode cX10_flaw 143 = .ok (.aload_n 0, 1) := by decide +kernel
theorem dX10_flaw_144 : decode cX10_flaw 144 = .ok (.getfield 98, 3) := by decide +kernel
theorem dX10_flaw_147 : decode cX10_flaw 147 = .ok (.iload_n 1, 1) := by decide +kernel
theorem dX10_flaw_148 : decode cX10_flaw 148 = .ok (.iaload, 1) := by decide +kernel
theorem dX10_flaw_149 : decode cX10_flaw 149 = .ok (.iload_n 2, 1) := by decide +kernel
theorem dX10_flaw_150 : decode cX10_flaw 150 = .ok (.iastore, 1) := by decide +kernel
theorem dX10_flaw_151 : decode cX10_flaw 151 = .ok (.aload_n 0, 1) := by decide +kernel
theorem dX10_flaw_152 : decode cX10_flaw 152 = .ok (.getfield 98, 3) := by decide +kernel
theorem dX10_flaw_155 : decode cX10_flaw 155 = .ok (.iload_n 1, 1) := by decide +kernel
theorem dX10_flaw_156 : decode cX10_flaw 156 = .ok (.dup2, 1) := by decide +kernel
theorem dX10_flaw_157 : decode cX10_flaw 157 = .ok (.iaload, 1) := by decide +kernel
theorem dX10_flaw_158 : decode cX10_flaw 158 = .ok (.iconst 1, 1) := by decide +kernel
theorem dX10_flaw_159 : decode cX10_flaw 159 = .ok (.iadd, 1) := by decide +kernel
theorem dX10_flaw_160 : decode cX10_flaw 160 = .ok (.iastore, 1) := by decide +kernel
theorem dX10_flaw_161 : decode cX10_flaw 161 = .ok (.aload_n 0, 1) := by decide +kernel
theorem dX10_flaw_162 : decode cX10_flaw 162 = .ok (.getfield 98, 3) := by decide +kernel
theorem dX10_flaw_165 : decode cX10_flaw 165 = .ok (.iload_n 1, 1) := by decide +kernel
theorem dX10_flaw_166 : decode cX10_flaw 166 = .ok (.iaload, 1) := by decide +kernel
theorem dX10_flaw_167 : decode cX10_flaw 167 = .ok (.ireturn, 1) := by decide +kernel
theorem dX10_left_0 : decode cX10_left 0 = .ok (.aload_n 0, 1) := by decide +kernel
theorem dX10_left_1 : decode cX10_left 1 = .ok (.iload_n 1, 1) := by decide +kernel
theorem dX10_left_2 : decode cX10_left 2 = .ok (.iconst 0, 1) := by decide +kernel
theorem dX10_left_3 : decode cX10_left 3 = .ok (.aload_n 0, 1) := by decide +kernel
theorem dX10_left_4 : decode cX10_left 4 = .ok (.getfield 179, 3) := by decide +kernel
theorem dX10_left_7 : decode cX10_left 7 = .ok (.iconst 1, 1) := by decide +kernel
theorem dX10_left_8 : decode cX10_left 8 = .ok (.isub, 1) := by decide +kernel
theorem dX10_left_9 : decode cX10_left 9 = .ok (.invokestatic 118, 3) := by decide +kernel
theorem dX10_left_12 : decode cX10_left 12 = .ok (.ifCond .ne 7, 3) := by decide +kernel
theorem dX10_left_15 : decode cX10_left 15 = .ok (.iconst 1, 1) := by decide +kernel
theorem dX10_left_16 : decode cX10_left 16 = .ok (.goto 4, 3) := by decide +kernel
theorem dX10_left_19 : decode cX10_left 19 = .ok (.iconst 0, 1) := by decide +kernel
theorem dX10_left_20 : decode cX10_left 20 = .ok (.iconst 1, 1) := by decide +kernel
theorem dX10_left_21 : decode cX10_left 21 = .ok (.invokevirtual 126, 3) := by decide +kernel
theorem dX10_left_24 : decode cX10_left 24 = .ok (.ifCond .eq 7, 3) := by decide +kernel
theorem dX10_left_27 : decode cX10_left 27 = .ok (.iconst 0, 1) := by decide +kernel
theorem dX10_left_28 : decode cX10_left 28 = .ok (.goto 16, 3) := by decide +kernel
theorem dX10_left_31 : decode cX10_left 31 = .ok (.aload_n 0, 1) := by decide +kernel
theorem dX10_left_32 : decode cX10_left 32 = .ok (.getfield 89, 3) := by decide +kernel
theorem dX10_left_35 : decode cX10_left 35 = .ok (.iload_n 1, 1) := by decide +kernel
theorem dX10_left_36 : decode cX10_left 36 = .ok (.iaload, 1) := by decide +kernel
theorem dX10_left_37 : decode cX10_left 37 = .ok (.aload_n 0, 1) := by decide +kernel
theorem dX10_left_38 : decode cX10_left 38 = .ok (.getfield 95, 3) := by decide +kernel
theorem dX10_left_41 : decode cX10_left 41 = .ok (.iload_n 1, 1) := by decide +kernel
theorem dX10_left_42 : decode cX10_left 42 = .ok (.iaload, 1) := by decide +kernel
theorem dX10_left_43 : decode cX10_left 43 = .ok (.isub, 1) := by decide +kernel
theorem dX10_left_44 : decode cX10_left 44 = .ok (.ireturn, 1) := by decide +kernel
theorem dX10_panel_0 : decode cX10_panel 0 = .ok (.aload_n 0, 1) := by decide +kernel
theorem dX10_panel_1 : decode cX10_panel 1 = .ok (.aload_n 0, 1) := by decide +kernel
theorem dX10_panel_2 : decode cX10_panel 2 = .ok (.iload_n 1, 1) := by decide +kernel
theorem dX10_panel_3 : decode cX10_panel 3 = .ok (.invokevirtual 122, 3) := by decide +kernel
theorem dX10_panel_6 : decode cX10_panel 6 = .ok (.iconst 1, 1) := by decide +kernel
theorem dX10_panel_7 : decode cX10_panel 7 = .ok (.invokevirtual 126, 3) := by decide +kernel
theorem dX10_panel_10 : decode cX10_panel 10 = .ok (.ifCond .ne 42, 3) := by decide +kernel
theorem dX10_panel_13 : decode cX10_panel 13 = .ok (.aload_n 0, 1) := by decide +kernel
theorem dX10_panel_14 : decode cX10_panel 14 = .ok (.aload_n 0, 1) := by decide +kernel
theorem dX10_panel_15 : decode cX10_panel 15 = .ok (.iload_n 1, 1) := by decide +kernel
theorem dX10_panel_16 : decode cX10_panel 16 = .ok (.invokevirtual 130, 3) := by decide +kernel
theorem dX10_panel_19 : decode cX10_panel 19 = .ok (.bipush 99, 2) := by decide +kernel
theorem dX10_panel_21 : decode cX10_panel 21 = .ok (.if_icmp .ne 19, 3) := by decide +kernel
theorem dX10_panel_24 : decode cX10_panel 24 = .ok (.iload_n 2, 1) := by decide +kernel
theorem dX10_panel_25 : decode cX10_panel 25 = .ok (.iconst 0, 1) := by decide +kernel
theorem dX10_panel_26 : decode cX10_panel 26 = .ok (.aload_n 0, 1) := by decide +kernel
theorem dX10_panel_27 : decode cX10_panel 27 = .ok (.getfield 9, 3) := by decide +kernel
theorem dX10_panel_30 : decode cX10_panel 30 = .ok (.iload_n 1, 1) := by decide +kernel
theorem dX10_panel_31 : decode cX10_panel 31 = .ok (.iaload, 1) := by decide +kernel
theorem dX10_panel_32 : decode cX10_panel 32 = .ok (.iconst 1, 1) := by decide +kernel
theorem dX10_panel_33 : decode cX10_panel 33 = .ok (.isub, 1) := by decide +kernel
theorem dX10_panel_34 : decode cX10_panel 34 = .ok (.invokestatic 118, 3) := by decide +kernel
theorem dX10_panel_37 : decode cX10_panel 37 = .ok (.ifCond .ne 7, 3) := by decide +kernel
theorem dX10_panel_40 : decode cX10_panel 40 = .ok (.iconst 1, 1) := by decide +kernel
theorem dX10_panel_41 : decode cX10_panel 41 = .ok (.goto 4, 3) := by decide +kernel
theorem dX10_panel_44 : decode cX10_panel 44 = .ok (.iconst 0, 1) := by decide +kernel
theorem dX10_panel_45 : decode cX10_panel 45 = .ok (.iconst 2, 1) := by decide +kernel
theorem dX10_panel_46 : decode cX10_panel 46 = .ok (.invokevirtual 126, 3) := by decide +kernel
theorem dX10_panel_49 : decode cX10_panel 49 = .ok (.ifCond .eq 5, 3) := by decide +kernel
theorem dX10_panel_52 : decode cX10_panel 52 = .ok (.iconst 0, 1) := by decide +kernel
theorem dX10_panel_53 : decode cX10_panel 53 = .ok (.ireturn, 1) := by decide +kernel
theorem dX10_panel_54 : decode cX10_panel 54 = .ok (.aload_n 0, 1) := by decide +kernel
theorem dX10_panel_55 : decode cX10_panel 55 = .ok (.getfield 71, 3) := by decide +kernel
theorem dX10_panel_58 : decode cX10_panel 58 = .ok (.iload_n 1, 1) := by decide +kernel
theorem dX10_panel_59 : decode cX10_panel 59 = .ok (.aaload, 1) := by decide +kernel
theorem dX10_panel_60 : decode cX10_panel 60 = .ok (.iload_n 2, 1) := by decide +kernel
theorem dX10_panel_61 : decode cX10_panel 61 = .ok (.iaload, 1) := by decide +kernel
theorem dX10_panel_62 : decode cX10_panel 62 = .ok (.ireturn, 1) := by decide +kernel
theorem dX10_uses_0 : decode cX10_uses 0 = .ok (.aload_n 0, 1) := by decide +kernel
theorem dX10_uses_1 : decode cX10_uses 1 = .ok (.iload_n 1, 1) := by decide +kernel
theorem dX10_uses_2 : decode cX10_uses 2 = .ok (.invokevirtual 193, 3) := by decide +kernel
theorem dX10_uses_5 : decode cX10_uses 5 = .ok (.istore_n 3, 1) := by decide +kernel
theorem dX10_uses_6 : decode cX10_uses 6 = .ok (.aload_n 0, 1) := by decide +kernel
theorem dX10_uses_7 : decode cX10_uses 7 = .ok (.getfield 77, 3) := by decide +kernel
theorem dX10_uses_10 : decode cX10_uses 10 = .ok (.iload_n 1, 1) := by decide +kernel
theorem dX10_uses_11 : decode cX10_uses 11 = .ok (.dup2, 1) := by decide +kernel
theorem dX10_uses_12 : decode cX10_uses 12 = .ok (.iaload, 1) := by decide +kernel
theorem dX10_uses_13 : decode cX10_uses 13 = .ok (.iload_n 2, 1) := by decide +kernel
theorem dX10_uses_14 : decode cX10_uses 14 = .ok (.iadd, 1) := by decide +kernel
theorem dX10_uses_15 : decode cX10_uses 15 = .ok (.iastore, 1) := by decide +kernel
theorem dX10_uses_16 : decode cX10_uses 16 = .ok (.iconst 0, 1) := by decide +kernel
theorem dX10_uses_17 : decode cX10_uses 17 = .ok (.istore 4, 2) := by decide +kernel
theorem dX10_uses_19 : decode cX10_uses 19 = .ok (.iload 4, 2) := by decide +kernel
theorem dX10_uses_21 : decode cX10_uses 21 = .ok (.aload_n 0, 1) := by decide +kernel
theorem dX10_uses_22 : decode cX10_uses 22 = .ok (.getfield 48, 3) := by decide +kernel
theorem dX10_uses_25 : decode cX10_uses 25 = .ok (.iload_n 1, 1) := by decide +kernel
theorem dX10_uses_26 : decode cX10_uses 26 = .ok (.iaload, 1) := by decide +kernel
theorem dX10_uses_27 : decode cX10_uses 27 = .ok (.if_icmp .ge 23, 3) := by decide +kernel
theorem dX10_uses_30 : decode cX10_uses 30 = .ok (.aload_n 0, 1) := by decide +kernel
theorem dX10_uses_31 : decode cX10_uses 31 = .ok (.getfield 62, 3) := by decide +kernel
theorem dX10_uses_34 : decode cX10_uses 34 = .ok (.iload_n 1, 1) := by decide +kernel
theorem dX10_uses_35 : decode cX10_uses 35 = .ok (.aaload, 1) := by decide +kernel
theorem dX10_uses_36 : decode cX10_uses 36 = .ok (.iload 4, 2) := by decide +kernel
theorem dX10_uses_38 : decode cX10_uses 38 = .ok (.dup2, 1) := by decide +kernel
theorem dX10_uses_39 : decode cX10_uses 39 = .ok (.laload, 1) := by decide +kernel
theorem dX10_uses_40 : decode cX10_uses 40 = .ok (.iload_n 2, 1) := by decide +kernel
theorem dX10_uses_41 : decode cX10_uses 41 = .ok (.i2l, 1) := by decide +kernel
theorem dX10_uses_42 : decode cX10_uses 42 = .ok (.ladd, 1) := by decide +kernel
theorem dX10_uses_43 : decode cX10_uses 43 = .ok (.lastore, 1) := by decide +kernel
theorem dX10_uses_44 : decode cX10_uses 44 = .ok (.iinc 4 1, 3) := by decide +kernel
theorem dX10_uses_47 : decode cX10_uses 47 = .ok (.goto (-28), 3) := by decide +kernel
theorem dX10_uses_50 : decode cX10_uses 50 = .ok (.iload_n 3, 1) := by decide +kernel
theorem dX10_uses_51 : decode cX10_uses 51 = .ok (.aload_n 0, 1) := by decide +kernel
theorem dX10_uses_52 : decode cX10_uses 52 = .ok (.iload_n 1, 1) := by decide +kernel
theorem dX10_uses_53 : decode cX10_uses 53 = .ok (.invokevirtual 193, 3) := by decide +kernel
theorem dX10_uses_56 : decode cX10_uses 56 = .ok (.isub, 1) := by decide +kernel
theorem dX10_uses_57 : decode cX10_uses 57 = .ok (.ireturn, 1) := by decide +kernel
theorem dX10_use_0 : decode cX10_use 0 = .ok (.aload_n 0, 1) := by decide +kernel
theorem dX10_use_1 : decode cX10_use 1 = .ok (.aload_n 0, 1) := by decide +kernel
theorem dX10_use_2 : decode cX10_use 2 = .ok (.iload_n 1, 1) := by decide +kernel
theorem dX10_use_3 : decode cX10_use 3 = .ok (.invokevirtual 122, 3) := by decide +kernel
theorem dX10_use_6 : decode cX10_use 6 = .ok (.iconst 1, 1) := by decide +kernel
theorem dX10_use_7 : decode cX10_use 7 = .ok (.invokevirtual 126, 3) := by decide +kernel
theorem dX10_use_10 : decode cX10_use 10 = .ok (.ifCond .ne 63, 3) := by decide +kernel
theorem dX10_use_13 : decode cX10_use 13 = .ok (.aload_n 0, 1) := by decide +kernel
theorem dX10_use_14 : decode cX10_use 14 = .ok (.iload_n 2, 1) := by decide +kernel
theorem dX10_use_15 : decode cX10_use 15 = .ok (.iconst 1, 1) := by decide +kernel
theorem dX10_use_16 : decode cX10_use 16 = .ok (.sipush 9999, 3) := by decide +kernel
theorem dX10_use_19 : decode cX10_use 19 = .ok (.invokestatic 118, 3) := by decide +kernel
theorem dX10_use_22 : decode cX10_use 22 = .ok (.ifCond .ne 7, 3) := by decide +kernel
theorem dX10_use_25 : decode cX10_use 25 = .ok (.iconst 1, 1) := by decide +kernel
theorem dX10_use_26 : decode cX10_use 26 = .ok (.goto 4, 3) := by decide +kernel
theorem dX10_use_29 : decode cX10_use 29 = .ok (.iconst 0, 1) := by decide +kernel
theorem dX10_use_30 : decode cX10_use 30 = .ok (.iconst 2, 1) := by decide +kernel
theorem dX10_use_31 : decode cX10_use 31 = .ok (.invokevirtual 126, 3) := by decide +kernel
theorem dX10_use_34 : decode cX10_use 34 = .ok (.ifCond .ne 39, 3) := by decide +kernel
theorem dX10_use_37 : decode cX10_use 37 = .ok (.aload_n 0, 1) := by decide +kernel
theorem dX10_use_38 : decode cX10_use 38 = .ok (.aload_n 0, 1) := by decide +kernel
theorem dX10_use_39 : decode cX10_use 39 = .ok (.iload_n 1, 1) := by decide +kernel
theorem dX10_use_40 : decode cX10_use 40 = .ok (.invokevirtual 130, 3) := by decide +kernel
theorem dX10_use_43 : decode cX10_use 43 = .ok (.bipush 99, 2) := by decide +kernel
theorem dX10_use_45 : decode cX10_use 45 = .ok (.if_icmp .ne 16, 3) := by decide +kernel
theorem dX10_use_48 : decode cX10_use 48 = .ok (.aload_n 0, 1) := by decide +kernel
theorem dX10_use_49 : decode cX10_use 49 = .ok (.getfield 77, 3) := by decide +kernel
theorem dX10_use_52 : decode cX10_use 52 = .ok (.iload_n 1, 1) := by decide +kernel
theorem dX10_use_53 : decode cX10_use 53 = .ok (.iaload, 1) := by decide +kernel
theorem dX10_use_54 : decode cX10_use 54 = .ok (.iload_n 2, 1) := by decide +kernel
theorem dX10_use_55 : decode cX10_use 55 = .ok (.iadd, 1) := by decide +kernel
theorem dX10_use_56 : decode cX10_use 56 = .ok (.ldc 238, 2) := by decide +kernel
theorem dX10_use_58 : decode cX10_use 58 = .ok (.if_icmp .le 7, 3) := by decide +kernel
theorem dX10_use_61 : decode cX10_use 61 = .ok (.iconst 1, 1) := by decide +kernel
theorem dX10_use_62 : decode cX10_use 62 = .ok (.goto 4, 3) := by decide +kernel
theorem dX10_use_65 : decode cX10_use 65 = .ok (.iconst 0, 1) := by decide +kernel
theorem dX10_use_66 : decode cX10_use 66 = .ok (.iconst 3, 1) := by decide +kernel
theorem dX10_use_67 : decode cX10_use 67 = .ok (.invokevirtual 126, 3) := by decide +kernel
theorem dX10_use_70 : decode cX10_use 70 = .ok (.ifCond .eq 5, 3) := by decide +kernel
theorem dX10_use_73 : decode cX10_use 73 = .ok (.iconst 0, 1) := by decide +kernel
theorem dX10_use_74 : decode cX10_use 74 = .ok (.ireturn, 1) := by decide +kernel
theorem dX10_use_75 : decode cX10_use 75 = .ok (.aload_n 0, 1) := by decide +kernel
theorem dX10_use_76 : decode cX10_use 76 = .ok (.iload_n 1, 1) := by decide +kernel
theorem dX10_use_77 : decode cX10_use 77 = .ok (.iload_n 2, 1) := by decide +kernel
theorem dX10_use_78 : decode cX10_use 78 = .ok (.invokevirtual 239, 3) := by decide +kernel
theorem dX10_use_81 : decode cX10_use 81 = .ok (.ireturn, 1) := by decide +kernel
theorem dX10_pound_0 : decode cX10_pound 0 = .ok (.aload_n 0, 1) := by decide +kernel
theorem dX10_pound_1 : decode cX10_pound 1 = .ok (.aload_n 0, 1) := by decide +kernel
theorem dX10_pound_2 : decode cX10_pound 2 = .ok (.iload_n 1, 1) := by decide +kernel
theorem dX10_pound_3 : decode cX10_pound 3 = .ok (.invokevirtual 122, 3) := by decide +kernel
theorem dX10_pound_6 : decode cX10_pound 6 = .ok (.iconst 1, 1) := by decide +kernel
theorem dX10_pound_7 : decode cX10_pound 7 = .ok (.invokevirtual 126, 3) := by decide +kernel
theorem dX10_pound_10 : decode cX10_pound 10 = .ok (.ifCond .ne 65, 3) := by decide +kernel
theorem dX10_pound_13 : decode cX10_pound 13 = .ok (.aload_n 0, 1) := by decide +kernel
theorem dX10_pound_14 : decode cX10_pound 14 = .ok (.iload_n 2, 1) := by decide +kernel
theorem dX10_pound_15 : decode cX10_pound 15 = .ok (.iconst 1, 1) := by decide +kernel
theorem dX10_pound_16 : decode cX10_pound 16 = .ok (.sipush 3000, 3) := by decide +kernel
theorem dX10_pound_19 : decode cX10_pound 19 = .ok (.invokestatic 118, 3) := by decide +kernel
theorem dX10_pound_22 : decode cX10_pound 22 = .ok (.ifCond .ne 7, 3) := by decide +kernel
theorem dX10_pound_25 : decode cX10_pound 25 = .ok (.iconst 1, 1) := by decide +kernel
theorem dX10_pound_26 : decode cX10_pound 26 = .ok (.goto 4, 3) := by decide +kernel
theorem dX10_pound_29 : decode cX10_pound 29 = .ok (.iconst 0, 1) := by decide +kernel
theorem dX10_pound_30 : decode cX10_pound 30 = .ok (.iconst 2, 1) := by decide +kernel
theorem dX10_pound_31 : decode cX10_pound 31 = .ok (.invokevirtual 126, 3) := by decide +kernel
theorem dX10_pound_34 : decode cX10_pound 34 = .ok (.ifCond .ne 41, 3) := by decide +kernel
theorem dX10_pound_37 : decode cX10_pound 37 = .ok (.aload_n 0, 1) := by decide +kernel
theorem dX10_pound_38 : decode cX10_pound 38 = .ok (.aload_n 0, 1) := by decide +kernel
theorem dX10_pound_39 : decode cX10_pound 39 = .ok (.iload_n 1, 1) := by decide +kernel
theorem dX10_pound_40 : decode cX10_pound 40 = .ok (.invokevirtual 130, 3) := by decide +kernel
theorem dX10_pound_43 : decode cX10_pound 43 = .ok (.bipush 99, 2) := by decide +kernel
theorem dX10_pound_45 : decode cX10_pound 45 = .ok (.if_icmp .ne 18, 3) := by decide +kernel
theorem dX10_pound_48 : decode cX10_pound 48 = .ok (.aload_n 0, 1) := by decide +kernel
theorem dX10_pound_49 : decode cX10_pound 49 = .ok (.getfield 77, 3) := by decide +kernel
theorem dX10_pound_52 : decode cX10_pound 52 = .ok (.iload_n 1, 1) := by decide +kernel
theorem dX10_pound_53 : decode cX10_pound 53 = .ok (.iaload, 1) := by decide +kernel
theorem dX10_pound_54 : decode cX10_pound 54 = .ok (.iconst 3, 1) := by decide +kernel
theorem dX10_pound_55 : decode cX10_pound 55 = .ok (.iload_n 2, 1) := by decide +kernel
theorem dX10_pound_56 : decode cX10_pound 56 = .ok (.imul, 1) := by decide +kernel
theorem dX10_pound_57 : decode cX10_pound 57 = .ok (.iadd, 1) := by decide +kernel
theorem dX10_pound_58 : decode cX10_pound 58 = .ok (.ldc 238, 2) := by decide +kernel
theorem dX10_pound_60 : decode cX10_pound 60 = .ok (.if_icmp .le 7, 3) := by decide +kernel
theorem dX10_pound_63 : decode cX10_pound 63 = .ok (.iconst 1, 1) := by decide +kernel
theorem dX10_pound_64 : decode cX10_pound 64 = .ok (.goto 4, 3) := by decide +kernel
theorem dX10_pound_67 : decode cX10_pound 67 = .ok (.iconst 0, 1) := by decide +kernel
theorem dX10_pound_68 : decode cX10_pound 68 = .ok (.iconst 3, 1) := by decide +kernel
theorem dX10_pound_69 : decode cX10_pound 69 = .ok (.invokevirtual 126, 3) := by decide +kernel
theorem dX10_pound_72 : decode cX10_pound 72 = .ok (.ifCond .eq 5, 3) := by decide +kernel
theorem dX10_pound_75 : decode cX10_pound 75 = .ok (.iconst 0, 1) := by decide +kernel
theorem dX10_pound_76 : decode cX10_pound 76 = .ok (.ireturn, 1) := by decide +kernel
theorem dX10_pound_77 : decode cX10_pound 77 = .ok (.aload_n 0, 1) := by decide +kernel
theorem dX10_pound_78 : decode cX10_pound 78 = .ok (.iload_n 1, 1) := by decide +kernel
theorem dX10_pound_79 : decode cX10_pound 79 = .ok (.iconst 3, 1) := by decide +kernel
theorem dX10_pound_80 : decode cX10_pound 80 = .ok (.iload_n 2, 1) := by decide +kernel
theorem dX10_pound_81 : decode cX10_pound 81 = .ok (.imul, 1) := by decide +kernel
theorem dX10_pound_82 : decode cX10_pound 82 = .ok (.invokevirtual 239, 3) := by decide +kernel
theorem dX10_pound_85 : decode cX10_pound 85 = .ok (.ireturn, 1) := by decide +kernel
theorem dX10_hours_0 : decode cX10_hours 0 = .ok (.aload_n 0, 1) := by decide +kernel
theorem dX10_hours_1 : decode cX10_hours 1 = .ok (.aload_n 0, 1) := by decide +kernel
theorem dX10_hours_2 : decode cX10_hours 2 = .ok (.iload_n 1, 1) := by decide +kernel
theorem dX10_hours_3 : decode cX10_hours 3 = .ok (.invokevirtual 122, 3) := by decide +kernel
theorem dX10_hours_6 : decode cX10_hours 6 = .ok (.iconst 1, 1) := by decide +kernel
theorem dX10_hours_7 : decode cX10_hours 7 = .ok (.invokevirtual 126, 3) := by decide +kernel
theorem dX10_hours_10 : decode cX10_hours 10 = .ok (.ifCond .ne 26, 3) := by decide +kernel
theorem dX10_hours_13 : decode cX10_hours 13 = .ok (.aload_n 0, 1) := by decide +kernel
theorem dX10_hours_14 : decode cX10_hours 14 = .ok (.aload_n 0, 1) := by decide +kernel
theorem dX10_hours_15 : decode cX10_hours 15 = .ok (.iload_n 1, 1) := by decide +kernel
theorem dX10_hours_16 : decode cX10_hours 16 = .ok (.invokevirtual 130, 3) := by decide +kernel
theorem dX10_hours_19 : decode cX10_hours 19 = .ok (.bipush 99, 2) := by decide +kernel
theorem dX10_hours_21 : decode cX10_hours 21 = .ok (.if_icmp .eq 7, 3) := by decide +kernel
theorem dX10_hours_24 : decode cX10_hours 24 = .ok (.iconst 1, 1) := by decide +kernel
theorem dX10_hours_25 : decode cX10_hours 25 = .ok (.goto 4, 3) := by decide +kernel
theorem dX10_hours_28 : decode cX10_hours 28 = .ok (.iconst 0, 1) := by decide +kernel
theorem dX10_hours_29 : decode cX10_hours 29 = .ok (.iconst 2, 1) := by decide +kernel
theorem dX10_hours_30 : decode cX10_hours 30 = .ok (.invokevirtual 126, 3) := by decide +kernel
theorem dX10_hours_33 : decode cX10_hours 33 = .ok (.ifCond .eq 7, 3) := by decide +kernel
theorem dX10_hours_36 : decode cX10_hours 36 = .ok (.iconst 0, 1) := by decide +kernel
theorem dX10_hours_37 : decode cX10_hours 37 = .ok (.goto 9, 3) := by decide +kernel
theorem dX10_hours_40 : decode cX10_hours 40 = .ok (.aload_n 0, 1) := by decide +kernel
theorem dX10_hours_41 : decode cX10_hours 41 = .ok (.getfield 77, 3) := by decide +kernel
theorem dX10_hours_44 : decode cX10_hours 44 = .ok (.iload_n 1, 1) := by decide +kernel
theorem dX10_hours_45 : decode cX10_hours 45 = .ok (.iaload, 1) := by decide +kernel
theorem dX10_hours_46 : decode cX10_hours 46 = .ok (.ireturn, 1) := by decide +kernel
theorem dX10_land_0 : decode cX10_land 0 = .ok (.aload_n 0, 1) := by decide +kernel
theorem dX10_land_1 : decode cX10_land 1 = .ok (.iload_n 1, 1) := by decide +kernel
theorem dX10_land_2 : decode cX10_land 2 = .ok (.iconst 0, 1) := by decide +kernel
theorem dX10_land_3 : decode cX10_land 3 = .ok (.iconst 3, 1) := by decide +kernel
theorem dX10_land_4 : decode cX10_land 4 = .ok (.invokestatic 118, 3) := by decide +kernel
theorem dX10_land_7 : decode cX10_land 7 = .ok (.ifCond .ne 7, 3) := by decide +kernel
theorem dX10_land_10 : decode cX10_land 10 = .ok (.iconst 1, 1) := by decide +kernel
theorem dX10_land_11 : decode cX10_land 11 = .ok (.goto 4, 3) := by decide +kernel
theorem dX10_land_14 : decode cX10_land 14 = .ok (.iconst 0, 1) := by decide +kernel
theorem dX10_land_15 : decode cX10_land 15 = .ok (.iconst 1, 1) := by decide +kernel
theorem dX10_land_16 : decode cX10_land 16 = .ok (.invokevirtual 126, 3) := by decide +kernel
theorem dX10_land_19 : decode cX10_land 19 = .ok (.ifCond .ne 38, 3) := by decide +kernel
theorem dX10_land_22 : decode cX10_land 22 = .ok (.aload_n 0, 1) := by decide +kernel
theorem dX10_land_23 : decode cX10_land 23 = .ok (.iload_n 2, 1) := by decide +kernel
theorem dX10_land_24 : decode cX10_land 24 = .ok (.invokestatic 172, 3) := by decide +kernel
theorem dX10_land_27 : decode cX10_land 27 = .ok (.ifCond .ne 9, 3) := by decide +kernel
theorem dX10_land_30 : decode cX10_land 30 = .ok (.iload_n 2, 1) := by decide +kernel
theorem dX10_land_31 : decode cX10_land 31 = .ok (.bipush 45, 2) := by decide +kernel
theorem dX10_land_33 : decode cX10_land 33 = .ok (.if_icmp .ne 12, 3) := by decide +kernel
theorem dX10_land_36 : decode cX10_land 36 = .ok (.iload_n 3, 1) := by decide +kernel
theorem dX10_land_37 : decode cX10_land 37 = .ok (.iconst 0, 1) := by decide +kernel
theorem dX10_land_38 : decode cX10_land 38 = .ok (.iconst 4, 1) := by decide +kernel
theorem dX10_land_39 : decode cX10_land 39 = .ok (.invokestatic 118, 3) := by decide +kernel
theorem dX10_land_42 : decode cX10_land 42 = .ok (.ifCond .ne 7, 3) := by decide +kernel
theorem dX10_land_45 : decode cX10_land 45 = .ok (.iconst 1, 1) := by decide +kernel
theorem dX10_land_46 : decode cX10_land 46 = .ok (.goto 4, 3) := by decide +kernel
theorem dX10_land_49 : decode cX10_land 49 = .ok (.iconst 0, 1) := by decide +kernel
theorem dX10_land_50 : decode cX10_land 50 = .ok (.iconst 2, 1) := by decide +kernel
theorem dX10_land_51 : decode cX10_land 51 = .ok (.invokevirtual 126, 3) := by decide +kernel
theorem dX10_land_54 : decode cX10_land 54 = .ok (.ifCond .eq 5, 3) := by decide +kernel
theorem dX10_land_57 : decode cX10_land 57 = .ok (.iconst 0, 1) := by decide +kernel
theorem dX10_land_58 : decode cX10_land 58 = .ok (.ireturn, 1) := by decide +kernel
theorem dX10_land_59 : decode cX10_land 59 = .ok (.aload_n 0, 1) := by decide +kernel
theorem dX10_land_60 : decode cX10_land 60 = .ok (.getfield 108, 3) := by decide +kernel
theorem dX10_land_63 : decode cX10_land 63 = .ok (.iload_n 1, 1) := by decide +kernel
theorem dX10_land_64 : decode cX10_land 64 = .ok (.iaload, 1) := by decide +kernel
theorem dX10_land_65 : decode cX10_land 65 = .ok (.istore 4, 2) := by decide +kernel
theorem dX10_land_67 : decode cX10_land 67 = .ok (.aload_n 0, 1) := by decide +kernel
theorem dX10_land_68 : decode cX10_land 68 = .ok (.getfield 104, 3) := by decide +kernel
theorem dX10_land_71 : decode cX10_land 71 = .ok (.iload_n 1, 1) := by decide +kernel
theorem dX10_land_72 : decode cX10_land 72 = .ok (.iload_n 2, 1) := by decide +kernel
theorem dX10_land_73 : decode cX10_land 73 = .ok (.castore, 1) := by decide +kernel
theorem dX10_land_74 : decode cX10_land 74 = .ok (.aload_n 0, 1) := by decide +kernel
theorem dX10_land_75 : decode cX10_land 75 = .ok (.getfield 108, 3) := by decide +kernel
theorem dX10_land_78 : decode cX10_land 78 = .ok (.iload_n 1, 1) := by decide +kernel
theorem dX10_land_79 : decode cX10_land 79 = .ok (.iload_n 3, 1) := by decide +kernel
theorem dX10_land_80 : decode cX10_land 80 = .ok (.iastore, 1) := by decide +kernel
theorem dX10_land_81 : decode cX10_land 81 = .ok (.iload 4, 2) := by decide +kernel
theorem dX10_land_83 : decode cX10_land 83 = .ok (.ireturn, 1) := by decide +kernel
theorem dX10_burns_0 : decode cX10_burns 0 = .ok (.aload_n 0, 1) := by decide +kernel
theorem dX10_burns_1 : decode cX10_burns 1 = .ok (.aload_n 0, 1) := by decide +kernel
theorem dX10_burns_2 : decode cX10_burns 2 = .ok (.iload_n 1, 1) := by decide +kernel
theorem dX10_burns_3 : decode cX10_burns 3 = .ok (.invokevirtual 122, 3) := by decide +kernel
theorem dX10_burns_6 : decode cX10_burns 6 = .ok (.ifCond .ne 12, 3) := by decide +kernel
theorem dX10_burns_9 : decode cX10_burns 9 = .ok (.iload_n 2, 1) := by decide +kernel
theorem dX10_burns_10 : decode cX10_burns 10 = .ok (.iconst 0, 1) := by decide +kernel
theorem dX10_burns_11 : decode cX10_burns 11 = .ok (.iconst 3, 1) := by decide +kernel
theorem dX10_burns_12 : decode cX10_burns 12 = .ok (.invokestatic 118, 3) := by decide +kernel
theorem dX10_burns_15 : decode cX10_burns 15 = .ok (.ifCond .ne 7, 3) := by decide +kernel
theorem dX10_burns_18 : decode cX10_burns 18 = .ok (.iconst 1, 1) := by decide +kernel
theorem dX10_burns_19 : decode cX10_burns 19 = .ok (.goto 4, 3) := by decide +kernel
theorem dX10_burns_22 : decode cX10_burns 22 = .ok (.iconst 0, 1) := by decide +kernel
theorem dX10_burns_23 : decode cX10_burns 23 = .ok (.iconst 1, 1) := by decide +kernel
theorem dX10_burns_24 : decode cX10_burns 24 = .ok (.invokevirtual 126, 3) := by decide +kernel
theorem dX10_burns_27 : decode cX10_burns 27 = .ok (.ifCond .ne 12, 3) := by decide +kernel
theorem dX10_burns_30 : decode cX10_burns 30 = .ok (.aload_n 0, 1) := by decide +kernel
theorem dX10_burns_31 : decode cX10_burns 31 = .ok (.getfield 48, 3) := by decide +kernel
theorem dX10_burns_34 : decode cX10_burns 34 = .ok (.iload_n 1, 1) := by decide +kernel
theorem dX10_burns_35 : decode cX10_burns 35 = .ok (.iaload, 1) := by decide +kernel
theorem dX10_burns_36 : decode cX10_burns 36 = .ok (.ifCond .ne 5, 3) := by decide +kernel
theorem dX10_burns_39 : decode cX10_burns 39 = .ok (.iconst 0, 1) := by decide +kernel
theorem dX10_burns_40 : decode cX10_burns 40 = .ok (.ireturn, 1) := by decide +kernel
theorem dX10_burns_41 : decode cX10_burns 41 = .ok (.iconst 0, 1) := by decide +kernel
theorem dX10_burns_42 : decode cX10_burns 42 = .ok (.istore_n 3, 1) := by decide +kernel
theorem dX10_burns_43 : decode cX10_burns 43 = .ok (.iconst 0, 1) := by decide +kernel
theorem dX10_burns_44 : decode cX10_burns 44 = .ok (.istore 4, 2) := by decide +kernel
theorem dX10_burns_46 : decode cX10_burns 46 = .ok (.iload 4, 2) := by decide +kernel
theorem dX10_burns_48 : decode cX10_burns 48 = .ok (.aload_n 0, 1) := by decide +kernel
theorem dX10_burns_49 : decode cX10_burns 49 = .ok (.getfield 48, 3) := by decide +kernel
theorem dX10_burns_52 : decode cX10_burns 52 = .ok (.iload_n 1, 1) := by decide +kernel
theorem dX10_burns_53 : decode cX10_burns 53 = .ok (.iaload, 1) := by decide +kernel
theorem dX10_burns_54 : decode cX10_burns 54 = .ok (.if_icmp .ge 31, 3) := by decide +kernel
theorem dX10_burns_57 : decode cX10_burns 57 = .ok (.iload_n 3, 1) := by decide +kernel
theorem dX10_burns_58 : decode cX10_burns 58 = .ok (.aload_n 0, 1) := by decide +kernel
theorem dX10_burns_59 : decode cX10_burns 59 = .ok (.getfield 51, 3) := by decide +kernel
theorem dX10_burns_62 : decode cX10_burns 62 = .ok (.iload_n 1, 1) := by decide +kernel
theorem dX10_burns_63 : decode cX10_burns 63 = .ok (.aaload, 1) := by decide +kernel
theorem dX10_burns_64 : decode cX10_burns 64 = .ok (.iload 4, 2) := by decide +kernel
theorem dX10_burns_66 : decode cX10_burns 66 = .ok (.caload, 1) := by decide +kernel
theorem dX10_burns_67 : decode cX10_burns 67 = .ok (.bipush 102, 2) := by decide +kernel
theorem dX10_burns_69 : decode cX10_burns 69 = .ok (.if_icmp .ne 7, 3) := by decide +kernel
theorem dX10_burns_72 : decode cX10_burns 72 = .ok (.iconst 1, 1) := by decide +kernel
theorem dX10_burns_73 : decode cX10_burns 73 = .ok (.goto 4, 3) := by decide +kernel
theorem dX10_burns_76 : decode cX10_burns 76 = .ok (.iconst 0, 1) := by decide +kernel
theorem dX10_burns_77 : decode cX10_burns 77 = .ok (.iadd, 1) := by decide +kernel
theorem dX10_burns_78 : decode cX10_burns 78 = .ok (.istore_n 3, 1) := by decide +kernel
theorem dX10_burns_79 : decode cX10_burns 79 = .ok (.iinc 4 1, 3) := by decide +kernel
theorem dX10_burns_82 : decode cX10_burns 82 = .ok (.goto (-36), 3) := by decide +kernel
theorem dX10_burns_85 : decode cX10_burns 85 = .ok (.aload_n 0, 1) := by decide +kernel
theorem dX10_burns_86 : decode cX10_burns 86 = .ok (.getfield 51, 3) := by decide +kernel
theorem dX10_burns_89 : decode cX10_burns 89 = .ok (.iload_n 1, 1) := by decide +kernel
theorem dX10_burns_90 : decode cX10_burns 90 = .ok (.aaload, 1) := by decide +kernel
theorem dX10_burns_91 : decode cX10_burns 91 = .ok (.aload_n 0, 1) := by decide +kernel
theorem dX10_burns_92 : decode cX10_burns 92 = .ok (.getfield 48, 3) := by decide +kernel
theorem dX10_burns_95 : decode cX10_burns 95 = .ok (.iload_n 1, 1) := by decide +kernel
theorem dX10_burns_96 : decode cX10_burns 96 = .ok (.iaload, 1) := by decide +kernel
theorem dX10_burns_97 : decode cX10_burns 97 = .ok (.iconst 1, 1) := by decide +kernel
theorem dX10_burns_98 : decode cX10_burns 98 = .ok (.isub, 1) := by decide +kernel
theorem dX10_burns_99 : decode cX10_burns 99 = .ok (.caload, 1) := by decide +kernel
theorem dX10_burns_100 : decode cX10_burns 100 = .ok (.aload_n 0, 1) := by decide +kernel
theorem dX10_burns_101 : decode cX10_burns 101 = .ok (.getfield 104, 3) := by decide +kernel
theorem dX10_burns_104 : decode cX10_burns 104 = .ok (.iload_n 2, 1) := by decide +kernel
theorem dX10_burns_105 : decode cX10_burns 105 = .ok (.caload, 1) := by decide +kernel
theorem dX10_burns_106 : decode cX10_burns 106 = .ok (.if_icmp .eq 13, 3) := by decide +kernel
theorem dX10_burns_109 : decode cX10_burns 109 = .ok (.iload_n 3, 1) := by decide +kernel
theorem dX10_burns_110 : decode cX10_burns 110 = .ok (.aload_n 0, 1) := by decide +kernel
theorem dX10_burns_111 : decode cX10_burns 111 = .ok (.getfield 108, 3) := by decide +kernel
theorem dX10_burns_114 : decode cX10_burns 114 = .ok (.iload_n 2, 1) := by decide +kernel
theorem dX10_burns_115 : decode cX10_burns 115 = .ok (.iaload, 1) := by decide +kernel
theorem dX10_burns_116 : decode cX10_burns 116 = .ok (.if_icmp .le 7, 3) := by decide +kernel
theorem dX10_burns_119 : decode cX10_burns 119 = .ok (.iconst 1, 1) := by decide +kernel
theorem dX10_burns_120 : decode cX10_burns 120 = .ok (.goto 4, 3) := by decide +kernel
theorem dX10_burns_123 : decode cX10_burns 123 = .ok (.iconst 0, 1) := by decide +kernel
theorem dX10_burns_124 : decode cX10_burns 124 = .ok (.ireturn, 1) := by decide +kernel
theorem dX10_tack_0 : decode cX10_tack 0 = .ok (.aload_n 0, 1) := by decide +kernel
theorem dX10_tack_1 : decode cX10_tack 1 = .ok (.iload_n 1, 1) := by decide +kernel
theorem dX10_tack_2 : decode cX10_tack 2 = .ok (.iload_n 2, 1) := by decide +kernel
theorem dX10_tack_3 : decode cX10_tack 3 = .ok (.invokevirtual 213, 3) := by decide +kernel
theorem dX10_tack_6 : decode cX10_tack 6 = .ok (.ifCond .ne 29, 3) := by decide +kernel
theorem dX10_tack_9 : decode cX10_tack 9 = .ok (.aload_n 0, 1) := by decide +kernel
theorem dX10_tack_10 : decode cX10_tack 10 = .ok (.iload_n 3, 1) := by decide +kernel
theorem dX10_tack_11 : decode cX10_tack 11 = .ok (.sipush 1700, 3) := by decide +kernel
theorem dX10_tack_14 : decode cX10_tack 14 = .ok (.sipush 2100, 3) := by decide +kernel
theorem dX10_tack_17 : decode cX10_tack 17 = .ok (.invokestatic 118, 3) := by decide +kernel
theorem dX10_tack_20 : decode cX10_tack 20 = .ok (.ifCond .ne 7, 3) := by decide +kernel
theorem dX10_tack_23 : decode cX10_tack 23 = .ok (.iconst 1, 1) := by decide +kernel
theorem dX10_tack_24 : decode cX10_tack 24 = .ok (.goto 4, 3) := by decide +kernel
theorem dX10_tack_27 : decode cX10_tack 27 = .ok (.iconst 0, 1) := by decide +kernel
theorem dX10_tack_28 : decode cX10_tack 28 = .ok (.iconst 3, 1) := by decide +kernel
theorem dX10_tack_29 : decode cX10_tack 29 = .ok (.invokevirtual 126, 3) := by decide +kernel
theorem dX10_tack_32 : decode cX10_tack 32 = .ok (.ifCond .eq 5, 3) := by decide +kernel
theorem dX10_tack_35 : decode cX10_tack 35 = .ok (.iconst 0, 1) := by decide +kernel
theorem dX10_tack_36 : decode cX10_tack 36 = .ok (.ireturn, 1) := by decide +kernel
theorem dX10_tack_37 : decode cX10_tack 37 = .ok (.aload_n 0, 1) := by decide +kernel
theorem dX10_tack_38 : decode cX10_tack 38 = .ok (.getfield 65, 3) := by decide +kernel
theorem dX10_tack_41 : decode cX10_tack 41 = .ok (.iload_n 1, 1) := by decide +kernel
theorem dX10_tack_42 : decode cX10_tack 42 = .ok (.aaload, 1) := by decide +kernel
theorem dX10_tack_43 : decode cX10_tack 43 = .ok (.iload_n 2, 1) := by decide +kernel
theorem dX10_tack_44 : decode cX10_tack 44 = .ok (.iaload, 1) := by decide +kernel
theorem dX10_tack_45 : decode cX10_tack 45 = .ok (.istore 4, 2) := by decide +kernel
theorem dX10_tack_47 : decode cX10_tack 47 = .ok (.aload_n 0, 1) := by decide +kernel
theorem dX10_tack_48 : decode cX10_tack 48 = .ok (.getfield 65, 3) := by decide +kernel
theorem dX10_tack_51 : decode cX10_tack 51 = .ok (.iload_n 1, 1) := by decide +kernel
theorem dX10_tack_52 : decode cX10_tack 52 = .ok (.aaload, 1) := by decide +kernel
theorem dX10_tack_53 : decode cX10_tack 53 = .ok (.iload_n 2, 1) := by decide +kernel
theorem dX10_tack_54 : decode cX10_tack 54 = .ok (.iload_n 3, 1) := by decide +kernel
theorem dX10_tack_55 : decode cX10_tack 55 = .ok (.iastore, 1) := by decide +kernel
theorem dX10_tack_56 : decode cX10_tack 56 = .ok (.iload 4, 2) := by decide +kernel
theorem dX10_tack_58 : decode cX10_tack 58 = .ok (.ireturn, 1) := by decide +kernel
theorem dX10_quarrels_0 : decode cX10_quarrels 0 = .ok (.aload_n 0, 1) := by decide +kernel
theorem dX10_quarrels_1 : decode cX10_quarrels 1 = .ok (.aload_n 0, 1) := by decide +kernel
theorem dX10_quarrels_2 : decode cX10_quarrels 2 = .ok (.iload_n 1, 1) := by decide +kernel
theorem dX10_quarrels_3 : decode cX10_quarrels 3 = .ok (.invokevirtual 122, 3) := by decide +kernel
theorem dX10_quarrels_6 : decode cX10_quarrels 6 = .ok (.iconst 1, 1) := by decide +kernel
theorem dX10_quarrels_7 : decode cX10_quarrels 7 = .ok (.invokevirtual 126, 3) := by decide +kernel
theorem dX10_quarrels_10 : decode cX10_quarrels 10 = .ok (.ifCond .eq 5, 3) := by decide +kernel
theorem dX10_quarrels_13 : decode cX10_quarrels 13 = .ok (.iconst 0, 1) := by decide +kernel
theorem dX10_quarrels_14 : decode cX10_quarrels 14 = .ok (.ireturn, 1) := by decide +kernel
theorem dX10_quarrels_15 : decode cX10_quarrels 15 = .ok (.iconst 0, 1) := by decide +kernel
theorem dX10_quarrels_16 : decode cX10_quarrels 16 = .ok (.istore_n 2, 1) := by decide +kernel
theorem dX10_quarrels_17 : decode cX10_quarrels 17 = .ok (.iconst 0, 1) := by decide +kernel
theorem dX10_quarrels_18 : decode cX10_quarrels 18 = .ok (.istore_n 3, 1) := by decide +kernel
theorem dX10_quarrels_19 : decode cX10_quarrels 19 = .ok (.iload_n 3, 1) := by decide +kernel
theorem dX10_quarrels_20 : decode cX10_quarrels 20 = .ok (.aload_n 0, 1) := by decide +kernel
theorem dX10_quarrels_21 : decode cX10_quarrels 21 = .ok (.getfield 48, 3) := by decide +kernel
theorem dX10_quarrels_24 : decode cX10_quarrels 24 = .ok (.iload_n 1, 1) := by decide +kernel
theorem dX10_quarrels_25 : decode cX10_quarrels 25 = .ok (.iaload, 1) := by decide +kernel
theorem dX10_quarrels_26 : decode cX10_quarrels 26 = .ok (.if_icmp .ge 63, 3) := by decide +kernel
theorem dX10_quarrels_29 : decode cX10_quarrels 29 = .ok (.iconst 0, 1) := by decide +kernel
theorem dX10_quarrels_30 : decode cX10_quarrels 30 = .ok (.istore 4, 2) := by decide +kernel
theorem dX10_quarrels_32 : decode cX10_quarrels 32 = .ok (.iload 4, 2) := by decide +kernel
theorem dX10_quarrels_34 : decode cX10_quarrels 34 = .ok (.iload_n 3, 1) := by decide +kernel
theorem dX10_quarrels_35 : decode cX10_quarrels 35 = .ok (.if_icmp .ge 48, 3) := by decide +kernel
theorem dX10_quarrels_38 : decode cX10_quarrels 38 = .ok (.iload_n 2, 1) := by decide +kernel
theorem dX10_quarrels_39 : decode cX10_quarrels 39 = .ok (.aload_n 0, 1) := by decide +kernel
theorem dX10_quarrels_40 : decode cX10_quarrels 40 = .ok (.getfield 65, 3) := by decide +kernel
theorem dX10_quarrels_43 : decode cX10_quarrels 43 = .ok (.iload_n 1, 1) := by decide +kernel
theorem dX10_quarrels_44 : decode cX10_quarrels 44 = .ok (.aaload, 1) := by decide +kernel
theorem dX10_quarrels_45 : decode cX10_quarrels 45 = .ok (.iload_n 3, 1) := by decide +kernel
theorem dX10_quarrels_46 : decode cX10_quarrels 46 = .ok (.iaload, 1) := by decide +kernel
theorem dX10_quarrels_47 : decode cX10_quarrels 47 = .ok (.ifCond .le 27, 3) := by decide +kernel
theorem dX10_quarrels_50 : decode cX10_quarrels 50 = .ok (.aload_n 0, 1) := by decide +kernel
theorem dX10_quarrels_51 : decode cX10_quarrels 51 = .ok (.getfield 65, 3) := by decide +kernel
theorem dX10_quarrels_54 : decode cX10_quarrels 54 = .ok (.iload_n 1, 1) := by decide +kernel
theorem dX10_quarrels_55 : decode cX10_quarrels 55 = .ok (.aaload, 1) := by decide +kernel
theorem dX10_quarrels_56 : decode cX10_quarrels 56 = .ok (.iload_n 3, 1) := by decide +kernel
theorem dX10_quarrels_57 : decode cX10_quarrels 57 = .ok (.iaload, 1) := by decide +kernel
theorem dX10_quarrels_58 : decode cX10_quarrels 58 = .ok (.aload_n 0, 1) := by decide +kernel
theorem dX10_quarrels_59 : decode cX10_quarrels 59 = .ok (.getfield 65, 3) := by decide +kernel
theorem dX10_quarrels_62 : decode cX10_quarrels 62 = .ok (.iload_n 1, 1) := by decide +kernel
theorem dX10_quarrels_63 : decode cX10_quarrels 63 = .ok (.aaload, 1) := by decide +kernel
theorem dX10_quarrels_64 : decode cX10_quarrels 64 = .ok (.iload 4, 2) := by decide +kernel
theorem dX10_quarrels_66 : decode cX10_quarrels 66 = .ok (.iaload, 1) := by decide +kernel
theorem dX10_quarrels_67 : decode cX10_quarrels 67 = .ok (.if_icmp .ge 7, 3) := by decide +kernel
theorem dX10_quarrels_70 : decode cX10_quarrels 70 = .ok (.iconst 1, 1) := by decide +kernel
theorem dX10_quarrels_71 : decode cX10_quarrels 71 = .ok (.goto 4, 3) := by decide +kernel
theorem dX10_quarrels_74 : decode cX10_quarrels 74 = .ok (.iconst 0, 1) := by decide +kernel
theorem dX10_quarrels_75 : decode cX10_quarrels 75 = .ok (.iadd, 1) := by decide +kernel
theorem dX10_quarrels_76 : decode cX10_quarrels 76 = .ok (.istore_n 2, 1) := by decide +kernel
theorem dX10_quarrels_77 : decode cX10_quarrels 77 = .ok (.iinc 4 1, 3) := by decide +kernel
theorem dX10_quarrels_80 : decode cX10_quarrels 80 = .ok (.goto (-48), 3) := by decide +kernel
theorem dX10_quarrels_83 : decode cX10_quarrels 83 = .ok (.iinc 3 1, 3) := by decide +kernel
theorem dX10_quarrels_86 : decode cX10_quarrels 86 = .ok (.goto (-67), 3) := by decide +kernel
theorem dX10_quarrels_89 : decode cX10_quarrels 89 = .ok (.iload_n 2, 1) := by decide +kernel
theorem dX10_quarrels_90 : decode cX10_quarrels 90 = .ok (.ireturn, 1) := by decide +kernel
theorem dX10_promise_0 : decode cX10_promise 0 = .ok (.aload_n 0, 1) := by decide +kernel
theorem dX10_promise_1 : decode cX10_promise 1 = .ok (.aload_n 0, 1) := by decide +kernel
theorem dX10_promise_2 : decode cX10_promise 2 = .ok (.iload_n 1, 1) := by decide +kernel
theorem dX10_promise_3 : decode cX10_promise 3 = .ok (.invokevirtual 122, 3) := by decide +kernel
theorem dX10_promise_6 : decode cX10_promise 6 = .ok (.iconst 1, 1) := by decide +kernel
theorem dX10_promise_7 : decode cX10_promise 7 = .ok (.invokevirtual 126, 3) := by decide +kernel
theorem dX10_promise_10 : decode cX10_promise 10 = .ok (.ifCond .ne 26, 3) := by decide +kernel
theorem dX10_promise_13 : decode cX10_promise 13 = .ok (.aload_n 0, 1) := by decide +kernel
theorem dX10_promise_14 : decode cX10_promise 14 = .ok (.iload_n 2, 1) := by decide +kernel
theorem dX10_promise_15 : decode cX10_promise 15 = .ok (.iconst 0, 1) := by decide +kernel
theorem dX10_promise_16 : decode cX10_promise 16 = .ok (.bipush 100, 2) := by decide +kernel
theorem dX10_promise_18 : decode cX10_promise 18 = .ok (.invokestatic 118, 3) := by decide +kernel
theorem dX10_promise_21 : decode cX10_promise 21 = .ok (.ifCond .ne 7, 3) := by decide +kernel
theorem dX10_promise_24 : decode cX10_promise 24 = .ok (.iconst 1, 1) := by decide +kernel
theorem dX10_promise_25 : decode cX10_promise 25 = .ok (.goto 4, 3) := by decide +kernel
theorem dX10_promise_28 : decode cX10_promise 28 = .ok (.iconst 0, 1) := by decide +kernel
theorem dX10_promise_29 : decode cX10_promise 29 = .ok (.iconst 2, 1) := by decide +kernel
theorem dX10_promise_30 : decode cX10_promise 30 = .ok (.invokevirtual 126, 3) := by decide +kernel
theorem dX10_promise_33 : decode cX10_promise 33 = .ok (.ifCond .eq 5, 3) := by decide +kernel
theorem dX10_promise_36 : decode cX10_promise 36 = .ok (.iconst 0, 1) := by decide +kernel
theorem dX10_promise_37 : decode cX10_promise 37 = .ok (.ireturn, 1) := by decide +kernel
theorem dX10_promise_38 : decode cX10_promise 38 = .ok (.aload_n 0, 1) := by decide +kernel
theorem dX10_promise_39 : decode cX10_promise 39 = .ok (.getfield 83, 3) := by decide +kernel
theorem dX10_promise_42 : decode cX10_promise 42 = .ok (.iload_n 1, 1) := by decide +kernel
theorem dX10_promise_43 : decode cX10_promise 43 = .ok (.iaload, 1) := by decide +kernel
theorem dX10_promise_44 : decode cX10_promise 44 = .ok (.istore_n 3, 1) := by decide +kernel
theorem dX10_promise_45 : decode cX10_promise 45 = .ok (.aload_n 0, 1) := by decide +kernel
theorem dX10_promise_46 : decode cX10_promise 46 = .ok (.getfield 83, 3) := by decide +kernel
theorem dX10_promise_49 : decode cX10_promise 49 = .ok (.iload_n 1, 1) := by decide +kernel
theorem dX10_promise_50 : decode cX10_promise 50 = .ok (.iload_n 2, 1) := by decide +kernel
theorem dX10_promise_51 : decode cX10_promise 51 = .ok (.iastore, 1) := by decide +kernel
theorem dX10_promise_52 : decode cX10_promise 52 = .ok (.iload_n 3, 1) := by decide +kernel
theorem dX10_promise_53 : decode cX10_promise 53 = .ok (.ireturn, 1) := by decide +kernel
theorem dX10_holds_0 : decode cX10_holds 0 = .ok (.aload_n 0, 1) := by decide +kernel
theorem dX10_holds_1 : decode cX10_holds 1 = .ok (.aload_n 0, 1) := by decide +kernel
theorem dX10_holds_2 : decode cX10_holds 2 = .ok (.iload_n 1, 1) := by decide +kernel
theorem dX10_holds_3 : decode cX10_holds 3 = .ok (.invokevirtual 122, 3) := by decide +kernel
theorem dX10_holds_6 : decode cX10_holds 6 = .ok (.iconst 1, 1) := by decide +kernel
theorem dX10_holds_7 : decode cX10_holds 7 = .ok (.invokevirtual 126, 3) := by decide +kernel
theorem dX10_holds_10 : decode cX10_holds 10 = .ok (.ifCond .ne 26, 3) := by decide +kernel
theorem dX10_holds_13 : decode cX10_holds 13 = .ok (.aload_n 0, 1) := by decide +kernel
theorem dX10_holds_14 : decode cX10_holds 14 = .ok (.aload_n 0, 1) := by decide +kernel
theorem dX10_holds_15 : decode cX10_holds 15 = .ok (.iload_n 1, 1) := by decide +kernel
theorem dX10_holds_16 : decode cX10_holds 16 = .ok (.invokevirtual 130, 3) := by decide +kernel
theorem dX10_holds_19 : decode cX10_holds 19 = .ok (.bipush 99, 2) := by decide +kernel
theorem dX10_holds_21 : decode cX10_holds 21 = .ok (.if_icmp .eq 7, 3) := by decide +kernel
theorem dX10_holds_24 : decode cX10_holds 24 = .ok (.iconst 1, 1) := by decide +kernel
theorem dX10_holds_25 : decode cX10_holds 25 = .ok (.goto 4, 3) := by decide +kernel
theorem dX10_holds_28 : decode cX10_holds 28 = .ok (.iconst 0, 1) := by decide +kernel
theorem dX10_holds_29 : decode cX10_holds 29 = .ok (.iconst 2, 1) := by decide +kernel
theorem dX10_holds_30 : decode cX10_holds 30 = .ok (.invokevirtual 126, 3) := by decide +kernel
theorem dX10_holds_33 : decode cX10_holds 33 = .ok (.ifCond .eq 5, 3) := by decide +kernel
theorem dX10_holds_36 : decode cX10_holds 36 = .ok (.iconst 0, 1) := by decide +kernel
theorem dX10_holds_37 : decode cX10_holds 37 = .ok (.ireturn, 1) := by decide +kernel
theorem dX10_holds_38 : decode cX10_holds 38 = .ok (.aload_n 0, 1) := by decide +kernel
theorem dX10_holds_39 : decode cX10_holds 39 = .ok (.getfield 80, 3) := by decide +kernel
theorem dX10_holds_42 : decode cX10_holds 42 = .ok (.iload_n 1, 1) := by decide +kernel
theorem dX10_holds_43 : decode cX10_holds 43 = .ok (.iaload, 1) := by decide +kernel
theorem dX10_holds_44 : decode cX10_holds 44 = .ok (.aload_n 0, 1) := by decide +kernel
theorem dX10_holds_45 : decode cX10_holds 45 = .ok (.iload_n 1, 1) := by decide +kernel
theorem dX10_holds_46 : decode cX10_holds 46 = .ok (.invokevirtual 193, 3) := by decide +kernel
theorem dX10_holds_49 : decode cX10_holds 49 = .ok (.isub, 1) := by decide +kernel
theorem dX10_holds_50 : decode cX10_holds 50 = .ok (.aload_n 0, 1) := by decide +kernel
theorem dX10_holds_51 : decode cX10_holds 51 = .ok (.getfield 80, 3) := by decide +kernel
theorem dX10_holds_54 : decode cX10_holds 54 = .ok (.iload_n 1, 1) := by decide +kernel
theorem dX10_holds_55 : decode cX10_holds 55 = .ok (.iaload, 1) := by decide +kernel
theorem dX10_holds_56 : decode cX10_holds 56 = .ok (.aload_n 0, 1) := by decide +kernel
theorem dX10_holds_57 : decode cX10_holds 57 = .ok (.getfield 83, 3) := by decide +kernel
theorem dX10_holds_60 : decode cX10_holds 60 = .ok (.iload_n 1, 1) := by decide +kernel
theorem dX10_holds_61 : decode cX10_holds 61 = .ok (.iaload, 1) := by decide +kernel
theorem dX10_holds_62 : decode cX10_holds 62 = .ok (.imul, 1) := by decide +kernel
theorem dX10_holds_63 : decode cX10_holds 63 = .ok (.bipush 100, 2) := by decide +kernel
theorem dX10_holds_65 : decode cX10_holds 65 = .ok (.idiv, 1) := by decide +kernel
theorem dX10_holds_66 : decode cX10_holds 66 = .ok (.if_icmp .gt 7, 3) := by decide +kernel
theorem dX10_holds_69 : decode cX10_holds 69 = .ok (.iconst 1, 1) := by decide +kernel
theorem dX10_holds_70 : decode cX10_holds 70 = .ok (.goto 4, 3) := by decide +kernel
theorem dX10_holds_73 : decode cX10_holds 73 = .ok (.iconst 0, 1) := by decide +kernel
theorem dX10_holds_74 : decode cX10_holds 74 = .ok (.ireturn, 1) := by decide +kernel
theorem dX10_quote_0 : decode cX10_quote 0 = .ok (.aload_n 0, 1) := by decide +kernel
theorem dX10_quote_1 : decode cX10_quote 1 = .ok (.aload_n 0, 1) := by decide +kernel
theorem dX10_quote_2 : decode cX10_quote 2 = .ok (.iload_n 1, 1) := by decide +kernel
theorem dX10_quote_3 : decode cX10_quote 3 = .ok (.invokevirtual 122, 3) := by decide +kernel
theorem dX10_quote_6 : decode cX10_quote 6 = .ok (.iconst 1, 1) := by decide +kernel
theorem dX10_quote_7 : decode cX10_quote 7 = .ok (.invokevirtual 126, 3) := by decide +kernel
theorem dX10_quote_10 : decode cX10_quote 10 = .ok (.ifCond .eq 5, 3) := by decide +kernel
theorem dX10_quote_13 : decode cX10_quote 13 = .ok (.iconst 0, 1) := by decide +kernel
theorem dX10_quote_14 : decode cX10_quote 14 = .ok (.ireturn, 1) := by decide +kernel
theorem dX10_quote_15 : decode cX10_quote 15 = .ok (.aload_n 0, 1) := by decide +kernel
theorem dX10_quote_16 : decode cX10_quote 16 = .ok (.iload_n 1, 1) := by decide +kernel
theorem dX10_quote_17 : decode cX10_quote 17 = .ok (.invokevirtual 199, 3) := by decide +kernel
theorem dX10_quote_20 : decode cX10_quote 20 = .ok (.ifCond .eq 21, 3) := by decide +kernel
theorem dX10_quote_23 : decode cX10_quote 23 = .ok (.iconst 5, 1) := by decide +kernel
theorem dX10_quote_24 : decode cX10_quote 24 = .ok (.aload_n 0, 1) := by decide +kernel
theorem dX10_quote_25 : decode cX10_quote 25 = .ok (.getfield 9, 3) := by decide +kernel
theorem dX10_quote_28 : decode cX10_quote 28 = .ok (.iload_n 1, 1) := by decide +kernel
theorem dX10_quote_29 : decode cX10_quote 29 = .ok (.iaload, 1) := by decide +kernel
theorem dX10_quote_30 : decode cX10_quote 30 = .ok (.imul, 1) := by decide +kernel
theorem dX10_quote_31 : decode cX10_quote 31 = .ok (.aload_n 0, 1) := by decide +kernel
theorem dX10_quote_32 : decode cX10_quote 32 = .ok (.getfield 13, 3) := by decide +kernel
theorem dX10_quote_35 : decode cX10_quote 35 = .ok (.iload_n 1, 1) := by decide +kernel
theorem dX10_quote_36 : decode cX10_quote 36 = .ok (.iaload, 1) := by decide +kernel
theorem dX10_quote_37 : decode cX10_quote 37 = .ok (.imul, 1) := by decide +kernel
theorem dX10_quote_38 : decode cX10_quote 38 = .ok (.goto 4, 3) := by decide +kernel
theorem dX10_quote_41 : decode cX10_quote 41 = .ok (.iconst 0, 1) := by decide +kernel
theorem dX10_quote_42 : decode cX10_quote 42 = .ok (.istore_n 2, 1) := by decide +kernel
theorem dX10_quote_43 : decode cX10_quote 43 = .ok (.iconst 0, 1) := by decide +kernel
theorem dX10_quote_44 : decode cX10_quote 44 = .ok (.istore_n 3, 1) := by decide +kernel
theorem dX10_quote_45 : decode cX10_quote 45 = .ok (.iload_n 3, 1) := by decide +kernel
theorem dX10_quote_46 : decode cX10_quote 46 = .ok (.aload_n 0, 1) := by decide +kernel
theorem dX10_quote_47 : decode cX10_quote 47 = .ok (.getfield 9, 3) := by decide +kernel
theorem dX10_quote_50 : decode cX10_quote 50 = .ok (.iload_n 1, 1) := by decide +kernel
theorem dX10_quote_51 : decode cX10_quote 51 = .ok (.iaload, 1) := by decide +kernel
theorem dX10_quote_52 : decode cX10_quote 52 = .ok (.if_icmp .ge 38, 3) := by decide +kernel
theorem dX10_quote_55 : decode cX10_quote 55 = .ok (.aload_n 0, 1) := by decide +kernel
theorem dX10_quote_56 : decode cX10_quote 56 = .ok (.iload_n 1, 1) := by decide +kernel
theorem dX10_quote_57 : decode cX10_quote 57 = .ok (.invokevirtual 199, 3) := by decide +kernel
theorem dX10_quote_60 : decode cX10_quote 60 = .ok (.ifCond .eq 30, 3) := by decide +kernel
theorem dX10_quote_63 : decode cX10_quote 63 = .ok (.iload_n 2, 1) := by decide +kernel
theorem dX10_quote_64 : decode cX10_quote 64 = .ok (.aload_n 0, 1) := by decide +kernel
theorem dX10_quote_65 : decode cX10_quote 65 = .ok (.getfield 42, 3) := by decide +kernel
theorem dX10_quote_68 : decode cX10_quote 68 = .ok (.iload_n 1, 1) := by decide +kernel
theorem dX10_quote_69 : decode cX10_quote 69 = .ok (.aaload, 1) := by decide +kernel
theorem dX10_quote_70 : decode cX10_quote 70 = .ok (.iload_n 3, 1) := by decide +kernel
theorem dX10_quote_71 : decode cX10_quote 71 = .ok (.iaload, 1) := by decide +kernel
theorem dX10_quote_72 : decode cX10_quote 72 = .ok (.bipush 99, 2) := by decide +kernel
theorem dX10_quote_74 : decode cX10_quote 74 = .ok (.if_icmp .ge 7, 3) := by decide +kernel
theorem dX10_quote_77 : decode cX10_quote 77 = .ok (.iconst 2, 1) := by decide +kernel
theorem dX10_quote_78 : decode cX10_quote 78 = .ok (.goto 4, 3) := by decide +kernel
theorem dX10_quote_81 : decode cX10_quote 81 = .ok (.iconst 0, 1) := by decide +kernel
theorem dX10_quote_82 : decode cX10_quote 82 = .ok (.iadd, 1) := by decide +kernel
theorem dX10_quote_83 : decode cX10_quote 83 = .ok (.istore_n 2, 1) := by decide +kernel
theorem dX10_quote_84 : decode cX10_quote 84 = .ok (.iinc 3 1, 3) := by decide +kernel
theorem dX10_quote_87 : decode cX10_quote 87 = .ok (.goto (-42), 3) := by decide +kernel
theorem dX10_quote_90 : decode cX10_quote 90 = .ok (.iconst 0, 1) := by decide +kernel
theorem dX10_quote_91 : decode cX10_quote 91 = .ok (.istore_n 3, 1) := by decide +kernel
theorem dX10_quote_92 : decode cX10_quote 92 = .ok (.iload_n 3, 1) := by decide +kernel
theorem dX10_quote_93 : decode cX10_quote 93 = .ok (.aload_n 0, 1) := by decide +kernel
theorem dX10_quote_94 : decode cX10_quote 94 = .ok (.getfield 13, 3) := by decide +kernel
theorem dX10_quote_97 : decode cX10_quote 97 = .ok (.iload_n 1, 1) := by decide +kernel
theorem dX10_quote_98 : decode cX10_quote 98 = .ok (.iaload, 1) := by decide +kernel
theorem dX10_quote_99 : decode cX10_quote 99 = .ok (.if_icmp .ge 38, 3) := by decide +kernel
theorem dX10_quote_102 : decode cX10_quote 102 = .ok (.aload_n 0, 1) := by decide +kernel
theorem dX10_quote_103 : decode cX10_quote 103 = .ok (.iload_n 1, 1) := by decide +kernel
theorem dX10_quote_104 : decode cX10_quote 104 = .ok (.invokevirtual 199, 3) := by decide +kernel
theorem dX10_quote_107 : decode cX10_quote 107 = .ok (.ifCond .eq 30, 3) := by decide +kernel
theorem dX10_quote_110 : decode cX10_quote 110 = .ok (.iload_n 2, 1) := by decide +kernel
theorem dX10_quote_111 : decode cX10_quote 111 = .ok (.aload_n 0, 1) := by decide +kernel
theorem dX10_quote_112 : decode cX10_quote 112 = .ok (.getfield 45, 3) := by decide +kernel
theorem dX10_quote_115 : decode cX10_quote 115 = .ok (.iload_n 1, 1) := by decide +kernel
theorem dX10_quote_116 : decode cX10_quote 116 = .ok (.aaload, 1) := by decide +kernel
theorem dX10_quote_117 : decode cX10_quote 117 = .ok (.iload_n 3, 1) := by decide +kernel
theorem dX10_quote_118 : decode cX10_quote 118 = .ok (.iaload, 1) := by decide +kernel
theorem dX10_quote_119 : decode cX10_quote 119 = .ok (.bipush 99, 2) := by decide +kernel
theorem dX10_quote_121 : decode cX10_quote 121 = .ok (.if_icmp .ge 7, 3) := by decide +kernel
theorem dX10_quote_124 : decode cX10_quote 124 = .ok (.iconst 2, 1) := by decide +kernel
theorem dX10_quote_125 : decode cX10_quote 125 = .ok (.goto 4, 3) := by decide +kernel
theorem dX10_quote_128 : decode cX10_quote 128 = .ok (.iconst 0, 1) := by decide +kernel
theorem dX10_quote_129 : decode cX10_quote 129 = .ok (.iadd, 1) := by decide +kernel
theorem dX10_quote_130 : decode cX10_quote 130 = .ok (.istore_n 2, 1) := by decide +kernel
theorem dX10_quote_131 : decode cX10_quote 131 = .ok (.iinc 3 1, 3) := by decide +kernel
theorem dX10_quote_134 : decode cX10_quote 134 = .ok (.goto (-42), 3) := by decide +kernel
theorem dX10_quote_137 : decode cX10_quote 137 = .ok (.iconst 0, 1) := by decide +kernel
theorem dX10_quote_138 : decode cX10_quote 138 = .ok (.istore_n 3, 1) := by decide +kernel
theorem dX10_quote_139 : decode cX10_quote 139 = .ok (.iload_n 3, 1) := by decide +kernel
theorem dX10_quote_140 : decode cX10_quote 140 = .ok (.aload_n 0, 1) := by decide +kernel
theorem dX10_quote_141 : decode cX10_quote 141 = .ok (.getfield 48, 3) := by decide +kernel
theorem dX10_quote_144 : decode cX10_quote 144 = .ok (.iload_n 1, 1) := by decide +kernel
theorem dX10_quote_145 : decode cX10_quote 145 = .ok (.iaload, 1) := by decide +kernel
theorem dX10_quote_146 : decode cX10_quote 146 = .ok (.if_icmp .ge 56, 3) := by decide +kernel
theorem dX10_quote_149 : decode cX10_quote 149 = .ok (.iload_n 2, 1) := by decide +kernel
theorem dX10_quote_150 : decode cX10_quote 150 = .ok (.aload_n 0, 1) := by decide +kernel
theorem dX10_quote_151 : decode cX10_quote 151 = .ok (.getfield 54, 3) := by decide +kernel
theorem dX10_quote_154 : decode cX10_quote 154 = .ok (.iload_n 1, 1) := by decide +kernel
theorem dX10_quote_155 : decode cX10_quote 155 = .ok (.aaload, 1) := by decide +kernel
theorem dX10_quote_156 : decode cX10_quote 156 = .ok (.iload_n 3, 1) := by decide +kernel
theorem dX10_quote_157 : decode cX10_quote 157 = .ok (.iaload, 1) := by decide +kernel
theorem dX10_quote_158 : decode cX10_quote 158 = .ok (.aload_n 0, 1) := by decide +kernel
theorem dX10_quote_159 : decode cX10_quote 159 = .ok (.getfield 51, 3) := by decide +kernel
theorem dX10_quote_162 : decode cX10_quote 162 = .ok (.iload_n 1, 1) := by decide +kernel
theorem dX10_quote_163 : decode cX10_quote 163 = .ok (.aaload, 1) := by decide +kernel
theorem dX10_quote_164 : decode cX10_quote 164 = .ok (.iload_n 3, 1) := by decide +kernel
theorem dX10_quote_165 : decode cX10_quote 165 = .ok (.caload, 1) := by decide +kernel
theorem dX10_quote_166 : decode cX10_quote 166 = .ok (.bipush 100, 2) := by decide +kernel
theorem dX10_quote_168 : decode cX10_quote 168 = .ok (.if_icmp .ne 7, 3) := by decide +kernel
theorem dX10_quote_171 : decode cX10_quote 171 = .ok (.iconst 1, 1) := by decide +kernel
theorem dX10_quote_172 : decode cX10_quote 172 = .ok (.goto 21, 3) := by decide +kernel
theorem dX10_quote_175 : decode cX10_quote 175 = .ok (.aload_n 0, 1) := by decide +kernel
theorem dX10_quote_176 : decode cX10_quote 176 = .ok (.getfield 51, 3) := by decide +kernel
theorem dX10_quote_179 : decode cX10_quote 179 = .ok (.iload_n 1, 1) := by decide +kernel
theorem dX10_quote_180 : decode cX10_quote 180 = .ok (.aaload, 1) := by decide +kernel
theorem dX10_quote_181 : decode cX10_quote 181 = .ok (.iload_n 3, 1) := by decide +kernel
theorem dX10_quote_182 : decode cX10_quote 182 = .ok (.caload, 1) := by decide +kernel
theorem dX10_quote_183 : decode cX10_quote 183 = .ok (.bipush 102, 2) := by decide +kernel
theorem dX10_quote_185 : decode cX10_quote 185 = .ok (.if_icmp .ne 7, 3) := by decide +kernel
theorem dX10_quote_188 : decode cX10_quote 188 = .ok (.iconst 2, 1) := by decide +kernel
theorem dX10_quote_189 : decode cX10_quote 189 = .ok (.goto 4, 3) := by decide +kernel
theorem dX10_quote_192 : decode cX10_quote 192 = .ok (.iconst 3, 1) := by decide +kernel
theorem dX10_quote_193 : decode cX10_quote 193 = .ok (.imul, 1) := by decide +kernel
theorem dX10_quote_194 : decode cX10_quote 194 = .ok (.iadd, 1) := by decide +kernel
theorem dX10_quote_195 : decode cX10_quote 195 = .ok (.istore_n 2, 1) := by decide +kernel
theorem dX10_quote_196 : decode cX10_quote 196 = .ok (.iinc 3 1, 3) := by decide +kernel
theorem dX10_quote_199 : decode cX10_quote 199 = .ok (.goto (-60), 3) := by decide +kernel
theorem dX10_quote_202 : decode cX10_quote 202 = .ok (.iload_n 2, 1) := by decide +kernel
theorem dX10_quote_203 : decode cX10_quote 203 = .ok (.iconst 4, 1) := by decide +kernel
theorem dX10_quote_204 : decode cX10_quote 204 = .ok (.aload_n 0, 1) := by decide +kernel
theorem dX10_quote_205 : decode cX10_quote 205 = .ok (.iload_n 1, 1) := by decide +kernel
theorem dX10_quote_206 : decode cX10_quote 206 = .ok (.invokevirtual 176, 3) := by decide +kernel
theorem dX10_quote_209 : decode cX10_quote 209 = .ok (.imul, 1) := by decide +kernel
theorem dX10_quote_210 : decode cX10_quote 210 = .ok (.iadd, 1) := by decide +kernel
theorem dX10_quote_211 : decode cX10_quote 211 = .ok (.istore_n 2, 1) := by decide +kernel
theorem dX10_quote_212 : decode cX10_quote 212 = .ok (.iload_n 2, 1) := by decide +kernel
theorem dX10_quote_213 : decode cX10_quote 213 = .ok (.aload_n 0, 1) := by decide +kernel
theorem dX10_quote_214 : decode cX10_quote 214 = .ok (.iload_n 1, 1) := by decide +kernel
theorem dX10_quote_215 : decode cX10_quote 215 = .ok (.invokevirtual 130, 3) := by decide +kernel
theorem dX10_quote_218 : decode cX10_quote 218 = .ok (.bipush 99, 2) := by decide +kernel
theorem dX10_quote_220 : decode cX10_quote 220 = .ok (.if_icmp .ne 19, 3) := by decide +kernel
theorem dX10_quote_223 : decode cX10_quote 223 = .ok (.aload_n 0, 1) := by decide +kernel
theorem dX10_quote_224 : decode cX10_quote 224 = .ok (.getfield 9, 3) := by decide +kernel
theorem dX10_quote_227 : decode cX10_quote 227 = .ok (.iload_n 1, 1) := by decide +kernel
theorem dX10_quote_228 : decode cX10_quote 228 = .ok (.iaload, 1) := by decide +kernel
theorem dX10_quote_229 : decode cX10_quote 229 = .ok (.aload_n 0, 1) := by decide +kernel
theorem dX10_quote_230 : decode cX10_quote 230 = .ok (.getfield 74, 3) := by decide +kernel
theorem dX10_quote_233 : decode cX10_quote 233 = .ok (.iload_n 1, 1) := by decide +kernel
theorem dX10_quote_234 : decode cX10_quote 234 = .ok (.iaload, 1) := by decide +kernel
theorem dX10_quote_235 : decode cX10_quote 235 = .ok (.imul, 1) := by decide +kernel
theorem dX10_quote_236 : decode cX10_quote 236 = .ok (.goto 4, 3) := by decide +kernel
theorem dX10_quote_239 : decode cX10_quote 239 = .ok (.iconst 0, 1) := by decide +kernel
theorem dX10_quote_240 : decode cX10_quote 240 = .ok (.iadd, 1) := by decide +kernel
theorem dX10_quote_241 : decode cX10_quote 241 = .ok (.ireturn, 1) := by decide +kernel
theorem dX10_checksum_0 : decode cX10_checksum 0 = .ok (.aload_n 0, 1) := by decide +kernel
theorem dX10_checksum_1 : decode cX10_checksum 1 = .ok (.iconst 0, 1) := by decide +kernel
theorem dX10_checksum_2 : decode cX10_checksum 2 = .ok (.putfield 111, 3) := by decide +kernel
theorem dX10_checksum_5 : decode cX10_checksum 5 = .ok (.ldc2_w 242, 3) := by decide +kernel
theorem dX10_checksum_8 : decode cX10_checksum 8 = .ok (.lstore_n 1, 1) := by decide +kernel
theorem dX10_checksum_9 : decode cX10_checksum 9 = .ok (.iconst 0, 1) := by decide +kernel
theorem dX10_checksum_10 : decode cX10_checksum 10 = .ok (.istore_n 3, 1) := by decide +kernel
theorem dX10_checksum_11 : decode cX10_checksum 11 = .ok (.iload_n 3, 1) := by decide +kernel
theorem dX10_checksum_12 : decode cX10_checksum 12 = .ok (.aload_n 0, 1) := by decide +kernel
theorem dX10_checksum_13 : decode cX10_checksum 13 = .ok (.getfield 115, 3) := by decide +kernel
theorem dX10_checksum_16 : decode cX10_checksum 16 = .ok (.if_icmp .ge 80, 3) := by decide +kernel
theorem dX10_checksum_19 : decode cX10_checksum 19 = .ok (.ldc2_w 244, 3) := by decide +kernel
theorem dX10_checksum_22 : decode cX10_checksum 22 = .ok (.lload_n 1, 1) := by decide +kernel
theorem dX10_checksum_23 : decode cX10_checksum 23 = .ok (.lmul, 1) := by decide +kernel
theorem dX10_checksum_24 : decode cX10_checksum 24 = .ok (.aload_n 0, 1) := by decide +kernel
theorem dX10_checksum_25 : decode cX10_checksum 25 = .ok (.getfield 16, 3) := by decide +kernel
theorem dX10_checksum_28 : decode cX10_checksum 28 = .ok (.iload_n 3, 1) := by decide +kernel
theorem dX10_checksum_29 : decode cX10_checksum 29 = .ok (.iaload, 1) := by decide +kernel
theorem dX10_checksum_30 : decode cX10_checksum 30 = .ok (.i2l, 1) := by decide +kernel
theorem dX10_checksum_31 : decode cX10_checksum 31 = .ok (.ladd, 1) := by decide +kernel
theorem dX10_checksum_32 : decode cX10_checksum 32 = .ok (.lstore_n 1, 1) := by decide +kernel
theorem dX10_checksum_33 : decode cX10_checksum 33 = .ok (.iconst 0, 1) := by decide +kernel
theorem dX10_checksum_34 : decode cX10_checksum 34 = .ok (.istore 4, 2) := by decide +kernel
theorem dX10_checksum_36 : decode cX10_checksum 36 = .ok (.iload 4, 2) := by decide +kernel
theorem dX10_checksum_38 : decode cX10_checksum 38 = .ok (.aload_n 0, 1) := by decide +kernel
theorem dX10_checksum_39 : decode cX10_checksum 39 = .ok (.getfield 9, 3) := by decide +kernel
theorem dX10_checksum_42 : decode cX10_checksum 42 = .ok (.iload_n 3, 1) := by decide +kernel
theorem dX10_checksum_43 : decode cX10_checksum 43 = .ok (.iaload, 1) := by decide +kernel
theorem dX10_checksum_44 : decode cX10_checksum 44 = .ok (.if_icmp .ge 46, 3) := by decide +kernel
theorem dX10_checksum_47 : decode cX10_checksum 47 = .ok (.iconst 0, 1) := by decide +kernel
theorem dX10_checksum_48 : decode cX10_checksum 48 = .ok (.istore 5, 2) := by decide +kernel
theorem dX10_checksum_50 : decode cX10_checksum 50 = .ok (.iload 5, 2) := by decide +kernel
theorem dX10_checksum_52 : decode cX10_checksum 52 = .ok (.aload_n 0, 1) := by decide +kernel
theorem dX10_checksum_53 : decode cX10_checksum 53 = .ok (.getfield 13, 3) := by decide +kernel
theorem dX10_checksum_56 : decode cX10_checksum 56 = .ok (.iload_n 3, 1) := by decide +kernel
theorem dX10_checksum_57 : decode cX10_checksum 57 = .ok (.iaload, 1) := by decide +kernel
theorem dX10_checksum_58 : decode cX10_checksum 58 = .ok (.if_icmp .ge 26, 3) := by decide +kernel
theorem dX10_checksum_61 : decode cX10_checksum 61 = .ok (.ldc2_w 244, 3) := by decide +kernel
theorem dX10_checksum_64 : decode cX10_checksum 64 = .ok (.lload_n 1, 1) := by decide +kernel
theorem dX10_checksum_65 : decode cX10_checksum 65 = .ok (.lmul, 1) := by decide +kernel
theorem dX10_checksum_66 : decode cX10_checksum 66 = .ok (.aload_n 0, 1) := by decide +kernel
theorem dX10_checksum_67 : decode cX10_checksum 67 = .ok (.iload_n 3, 1) := by decide +kernel
theorem dX10_checksum_68 : decode cX10_checksum 68 = .ok (.iload 4, 2) := by decide +kernel
theorem dX10_checksum_70 : decode cX10_checksum 70 = .ok (.iload 5, 2) := by decide +kernel
theorem dX10_checksum_72 : decode cX10_checksum 72 = .ok (.invokevirtual 182, 3) := by decide +kernel
theorem dX10_checksum_75 : decode cX10_checksum 75 = .ok (.i2l, 1) := by decide +kernel
theorem dX10_checksum_76 : decode cX10_checksum 76 = .ok (.ladd, 1) := by decide +kernel
theorem dX10_checksum_77 : decode cX10_checksum 77 = .ok (.lstore_n 1, 1) := by decide +kernel
theorem dX10_checksum_78 : decode cX10_checksum 78 = .ok (.iinc 5 1, 3) := by decide +kernel
theorem dX10_checksum_81 : decode cX10_checksum 81 = .ok (.goto (-31), 3) := by decide +kernel
theorem dX10_checksum_84 : decode cX10_checksum 84 = .ok (.iinc 4 1, 3) := by decide +kernel
theorem dX10_checksum_87 : decode cX10_checksum 87 = .ok (.goto (-51), 3) := by decide +kernel
theorem dX10_checksum_90 : decode cX10_checksum 90 = .ok (.iinc 3 1, 3) := by decide +kernel
theorem dX10_checksum_93 : decode cX10_checksum 93 = .ok (.goto (-82), 3) := by decide +kernel
theorem dX10_checksum_96 : decode cX10_checksum 96 = .ok (.lload_n 1, 1) := by decide +kernel
theorem dX10_checksum_97 : decode cX10_checksum 97 = .ok (.lreturn, 1) := by decide +kernel
theorem dX10_closedShare_0 : decode cX10_closedShare 0 = .ok (.aload_n 0, 1) := by decide +kernel
theorem dX10_closedShare_1 : decode cX10_closedShare 1 = .ok (.aload_n 0, 1) := by decide +kernel
theorem dX10_closedShare_2 : decode cX10_closedShare 2 = .ok (.getfield 115, 3) := by decide +kernel
theorem dX10_closedShare_5 : decode cX10_closedShare 5 = .ok (.ifCond .ne 7, 3) := by decide +kernel
theorem dX10_closedShare_8 : decode cX10_closedShare 8 = .ok (.iconst 1, 1) := by decide +kernel
theorem dX10_closedShare_9 : decode cX10_closedShare 9 = .ok (.goto 4, 3) := by decide +kernel
theorem dX10_closedShare_12 : decode cX10_closedShare 12 = .ok (.iconst 0, 1) := by decide +kernel
theorem dX10_closedShare_13 : decode cX10_closedShare 13 = .ok (.iconst 1, 1) := by decide +kernel
theorem dX10_closedShare_14 : decode cX10_closedShare 14 = .ok (.invokevirtual 126, 3) := by decide +kernel
theorem dX10_closedShare_17 : decode cX10_closedShare 17 = .ok (.ifCond .eq 5, 3) := by decide +kernel
theorem dX10_closedShare_20 : decode cX10_closedShare 20 = .ok (.fconst 0, 1) := by decide +kernel
theorem dX10_closedShare_21 : decode cX10_closedShare 21 = .ok (.freturn, 1) := by decide +kernel
theorem dX10_closedShare_22 : decode cX10_closedShare 22 = .ok (.iconst 0, 1) := by decide +kernel
theorem dX10_closedShare_23 : decode cX10_closedShare 23 = .ok (.istore_n 1, 1) := by decide +kernel
theorem dX10_closedShare_24 : decode cX10_closedShare 24 = .ok (.iconst 0, 1) := by decide +kernel
theorem dX10_closedShare_25 : decode cX10_closedShare 25 = .ok (.istore_n 2, 1) := by decide +kernel
theorem dX10_closedShare_26 : decode cX10_closedShare 26 = .ok (.iload_n 2, 1) := by decide +kernel
theorem dX10_closedShare_27 : decode cX10_closedShare 27 = .ok (.aload_n 0, 1) := by decide +kernel
theorem dX10_closedShare_28 : decode cX10_closedShare 28 = .ok (.getfield 115, 3) := by decide +kernel
theorem dX10_closedShare_31 : decode cX10_closedShare 31 = .ok (.if_icmp .ge 27, 3) := by decide +kernel
theorem dX10_closedShare_34 : decode cX10_closedShare 34 = .ok (.iload_n 1, 1) := by decide +kernel
theorem dX10_closedShare_35 : decode cX10_closedShare 35 = .ok (.aload_n 0, 1) := by decide +kernel
theorem dX10_closedShare_36 : decode cX10_closedShare 36 = .ok (.iload_n 2, 1) := by decide +kernel
theorem dX10_closedShare_37 : decode cX10_closedShare 37 = .ok (.invokevirtual 130, 3) := by decide +kernel
theorem dX10_closedShare_40 : decode cX10_closedShare 40 = .ok (.bipush 99, 2) := by decide +kernel
theorem dX10_closedShare_42 : decode cX10_closedShare 42 = .ok (.if_icmp .ne 7, 3) := by decide +kernel
theorem dX10_closedShare_45 : decode cX10_closedShare 45 = .ok (.iconst 1, 1) := by decide +kernel
theorem dX10_closedShare_46 : decode cX10_closedShare 46 = .ok (.goto 4, 3) := by decide +kernel
theorem dX10_closedShare_49 : decode cX10_closedShare 49 = .ok (.iconst 0, 1) := by decide +kernel
theorem dX10_closedShare_50 : decode cX10_closedShare 50 = .ok (.iadd, 1) := by decide +kernel
theorem dX10_closedShare_51 : decode cX10_closedShare 51 = .ok (.istore_n 1, 1) := by decide +kernel
theorem dX10_closedShare_52 : decode cX10_closedShare 52 = .ok (.iinc 2 1, 3) := by decide +kernel
theorem dX10_closedShare_55 : decode cX10_closedShare 55 = .ok (.goto (-29), 3) := by decide +kernel
theorem dX10_closedShare_58 : decode cX10_closedShare 58 = .ok (.iload_n 1, 1) := by decide +kernel
theorem dX10_closedShare_59 : decode cX10_closedShare 59 = .ok (.i2f, 1) := by decide +kernel
theorem dX10_closedShare_60 : decode cX10_closedShare 60 = .ok (.aload_n 0, 1) := by decide +kernel
theorem dX10_closedShare_61 : decode cX10_closedShare 61 = .ok (.getfield 115, 3) := by decide +kernel
theorem dX10_closedShare_64 : decode cX10_closedShare 64 = .ok (.i2f, 1) := by decide +kernel
theorem dX10_closedShare_65 : decode cX10_closedShare 65 = .ok (.fdiv, 1) := by decide +kernel
theorem dX10_closedShare_66 : decode cX10_closedShare 66 = .ok (.freturn, 1) := by decide +kernel
theorem dX10_meanTop_0 : decode cX10_meanTop 0 = .ok (.aload_n 0, 1) := by decide +kernel
theorem dX10_meanTop_1 : decode cX10_meanTop 1 = .ok (.aload_n 0, 1) := by decide +kernel
theorem dX10_meanTop_2 : decode cX10_meanTop 2 = .ok (.iload_n 1, 1) := by decide +kernel
theorem dX10_meanTop_3 : decode cX10_meanTop 3 = .ok (.invokevirtual 122, 3) := by decide +kernel
theorem dX10_meanTop_6 : decode cX10_meanTop 6 = .ok (.iconst 1, 1) := by decide +kernel
theorem dX10_meanTop_7 : decode cX10_meanTop 7 = .ok (.invokevirtual 126, 3) := by decide +kernel
theorem dX10_meanTop_10 : decode cX10_meanTop 10 = .ok (.ifCond .eq 7, 3) := by decide +kernel
theorem dX10_meanTop_13 : decode cX10_meanTop 13 = .ok (.dconst 0, 1) := by decide +kernel
theorem dX10_meanTop_14 : decode cX10_meanTop 14 = .ok (.goto 24, 3) := by decide +kernel
theorem dX10_meanTop_17 : decode cX10_meanTop 17 = .ok (.aload_n 0, 1) := by decide +kernel
theorem dX10_meanTop_18 : decode cX10_meanTop 18 = .ok (.iload_n 1, 1) := by decide +kernel
theorem dX10_meanTop_19 : decode cX10_meanTop 19 = .ok (.invokevirtual 193, 3) := by decide +kernel
theorem dX10_meanTop_22 : decode cX10_meanTop 22 = .ok (.i2d, 1) := by decide +kernel
theorem dX10_meanTop_23 : decode cX10_meanTop 23 = .ok (.aload_n 0, 1) := by decide +kernel
theorem dX10_meanTop_24 : decode cX10_meanTop 24 = .ok (.getfield 9, 3) := by decide +kernel
theorem dX10_meanTop_27 : decode cX10_meanTop 27 = .ok (.iload_n 1, 1) := by decide +kernel
theorem dX10_meanTop_28 : decode cX10_meanTop 28 = .ok (.iaload, 1) := by decide +kernel
theorem dX10_meanTop_29 : decode cX10_meanTop 29 = .ok (.aload_n 0, 1) := by decide +kernel
theorem dX10_meanTop_30 : decode cX10_meanTop 30 = .ok (.getfield 13, 3) := by decide +kernel
theorem dX10_meanTop_33 : decode cX10_meanTop 33 = .ok (.iload_n 1, 1) := by decide +kernel
theorem dX10_meanTop_34 : decode cX10_meanTop 34 = .ok (.iaload, 1) := by decide +kernel
theorem dX10_meanTop_35 : decode cX10_meanTop 35 = .ok (.imul, 1) := by decide +kernel
theorem dX10_meanTop_36 : decode cX10_meanTop 36 = .ok (.i2d, 1) := by decide +kernel
theorem dX10_meanTop_37 : decode cX10_meanTop 37 = .ok (.ddiv, 1) := by decide +kernel
theorem dX10_meanTop_38 : decode cX10_meanTop 38 = .ok (.dreturn, 1) := by decide +kernel
theorem dX10_isSound_0 : decode cX10_isSound 0 = .ok (.aload_n 0, 1) := by decide +kernel
theorem dX10_isSound_1 : decode cX10_isSound 1 = .ok (.iconst 0, 1) := by decide +kernel
theorem dX10_isSound_2 : decode cX10_isSound 2 = .ok (.putfield 111, 3) := by decide +kernel
theorem dX10_isSound_5 : decode cX10_isSound 5 = .ok (.iconst 1, 1) := by decide +kernel
theorem dX10_isSound_6 : decode cX10_isSound 6 = .ok (.ireturn, 1) := by decide +kernel
theorem dJ9_floorMod_7cf53_0 : decode cJ9_floorMod_7cf53 0 = .ok (.iload_n 0, 1) := by decide +kernel
theorem dJ9_floorMod_7cf53_1 : decode cJ9_floorMod_7cf53 1 = .ok (.iload_n 1, 1) := by decide +kernel
theorem dJ9_floorMod_7cf53_2 : decode cJ9_floorMod_7cf53 2 = .ok (.irem, 1) := by decide +kernel
theorem dJ9_floorMod_7cf53_3 : decode cJ9_floorMod_7cf53 3 = .ok (.istore_n 2, 1) := by decide +kernel
theorem dJ9_floorMod_7cf53_4 : decode cJ9_floorMod_7cf53 4 = .ok (.iload_n 0, 1) := by decide +kernel
theorem dJ9_floorMod_7cf53_5 : decode cJ9_floorMod_7cf53 5 = .ok (.iload_n 1, 1) := by decide +kernel
theorem dJ9_floorMod_7cf53_6 : decode cJ9_floorMod_7cf53 6 = .ok (.ixor, 1) := by decide +kernel
theorem dJ9_floorMod_7cf53_7 : decode cJ9_floorMod_7cf53 7 = .ok (.ifCond .ge 11, 3) := by decide +kernel
theorem dJ9_floorMod_7cf53_10 : decode cJ9_floorMod_7cf53 10 = .ok (.iload_n 2, 1) := by decide +kernel
theorem dJ9_floorMod_7cf53_11 : decode cJ9_floorMod_7cf53 11 = .ok (.ifCond .eq 7, 3) := by decide +kernel
theorem dJ9_floorMod_7cf53_14 : decode cJ9_floorMod_7cf53 14 = .ok (.iload_n 2, 1) := by decide +kernel
theorem dJ9_floorMod_7cf53_15 : decode cJ9_floorMod_7cf53 15 = .ok (.iload_n 1, 1) := by decide +kernel
theorem dJ9_floorMod_7cf53_16 : decode cJ9_floorMod_7cf53 16 = .ok (.iadd, 1) := by decide +kernel
theorem dJ9_floorMod_7cf53_17 : decode cJ9_floorMod_7cf53 17 = .ok (.ireturn, 1) := by decide +kernel
theorem dJ9_floorMod_7cf53_18 : decode cJ9_floorMod_7cf53 18 = .ok (.iload_n 2, 1) := by decide +kernel
theorem dJ9_floorMod_7cf53_19 : decode cJ9_floorMod_7cf53 19 = .ok (.ireturn, 1) := by decide +kernel
theorem dJ9_abs_0f7a4_0 : decode cJ9_abs_0f7a4 0 = .ok (.iload_n 0, 1) := by decide +kernel
theorem dJ9_abs_0f7a4_1 : decode cJ9_abs_0f7a4 1 = .ok (.ifCond .ge 8, 3) := by decide +kernel
theorem dJ9_abs_0f7a4_4 : decode cJ9_abs_0f7a4 4 = .ok (.iload_n 0, 1) := by decide +kernel
theorem dJ9_abs_0f7a4_5 : decode cJ9_abs_0f7a4 5 = .ok (.ineg, 1) := by decide +kernel
theorem dJ9_abs_0f7a4_6 : decode cJ9_abs_0f7a4 6 = .ok (.goto 4, 3) := by decide +kernel
theorem dJ9_abs_0f7a4_9 : decode cJ9_abs_0f7a4 9 = .ok (.iload_n 0, 1) := by decide +kernel
theorem dJ9_abs_0f7a4_10 : decode cJ9_abs_0f7a4 10 = .ok (.ireturn, 1) := by decide +kernel
theorem dJ9_max_7cf53_0 : decode cJ9_max_7cf53 0 = .ok (.iload_n 0, 1) := by decide +kernel
theorem dJ9_max_7cf53_1 : decode cJ9_max_7cf53 1 = .ok (.iload_n 1, 1) := by decide +kernel
theorem dJ9_max_7cf53_2 : decode cJ9_max_7cf53 2 = .ok (.if_icmp .lt 7, 3) := by decide +kernel
theorem dJ9_max_7cf53_5 : decode cJ9_max_7cf53 5 = .ok (.iload_n 0, 1) := by decide +kernel
theorem dJ9_max_7cf53_6 : decode cJ9_max_7cf53 6 = .ok (.goto 4, 3) := by decide +kernel
theorem dJ9_max_7cf53_9 : decode cJ9_max_7cf53 9 = .ok (.iload_n 1, 1) := by decide +kernel
theorem dJ9_max_7cf53_10 : decode cJ9_max_7cf53 10 = .ok (.ireturn, 1) := by decide +kernel
theorem dJ9_min_7cf53_0 : decode cJ9_min_7cf53 0 = .ok (.iload_n 0, 1) := by decide +kernel
theorem dJ9_min_7cf53_1 : decode cJ9_min_7cf53 1 = .ok (.iload_n 1, 1) := by decide +kernel
theorem dJ9_min_7cf53_2 : decode cJ9_min_7cf53 2 = .ok (.if_icmp .gt 7, 3) := by decide +kernel
theorem dJ9_min_7cf53_5 : decode cJ9_min_7cf53 5 = .ok (.iload_n 0, 1) := by decide +kernel
theorem dJ9_min_7cf53_6 : decode cJ9_min_7cf53 6 = .ok (.goto 4, 3) := by decide +kernel
theorem dJ9_min_7cf53_9 : decode cJ9_min_7cf53 9 = .ok (.iload_n 1, 1) := by decide +kernel
theorem dJ9_min_7cf53_10 : decode cJ9_min_7cf53 10 = .ok (.ireturn, 1) := by decide +kernel
theorem dJxa1e45_init_da8c8_0 : decode cJxa1e45_init_da8c8 0 = .ok (.aload_n 0, 1) := by decide +kernel
theorem dJxa1e45_init_da8c8_1 : decode cJxa1e45_init_da8c8 1 = .ok (.invokespecial 1, 3) := by decide +kernel
theorem dJxa1e45_init_da8c8_4 : decode cJxa1e45_init_da8c8 4 = .ok (.return_, 1) := by decide +kernel
theorem dJxc12de_init_da8c8_0 : decode cJxc12de_init_da8c8 0 = .ok (.aload_n 0, 1) := by decide +kernel
theorem dJxc12de_init_da8c8_1 : decode cJxc12de_init_da8c8 1 = .ok (.invokespecial 1, 3) := by decide +kernel
theorem dJxc12de_init_da8c8_4 : decode cJxc12de_init_da8c8 4 = .ok (.aload_n 0, 1) := by decide +kernel
theorem dJxc12de_init_da8c8_5 : decode cJxc12de_init_da8c8 5 = .ok (.iconst 0, 1) := by decide +kernel
theorem dJxc12de_init_da8c8_6 : decode cJxc12de_init_da8c8 6 = .ok (.putfield 7, 3) := by decide +kernel
theorem dJxc12de_init_da8c8_9 : decode cJxc12de_init_da8c8 9 = .ok (.return_, 1) := by decide +kernel
theorem dJx4a65c_init_da8c8_0 : decode cJx4a65c_init_da8c8 0 = .ok (.aload_n 0, 1) := by decide +kernel
theorem dJx4a65c_init_da8c8_1 : decode cJx4a65c_init_da8c8 1 = .ok (.invokespecial 1, 3) := by decide +kernel
theorem dJx4a65c_init_da8c8_4 : decode cJx4a65c_init_da8c8 4 = .ok (.aload_n 0, 1) := by decide +kernel
theorem dJx4a65c_init_da8c8_5 : decode cJx4a65c_init_da8c8 5 = .ok (.getstatic 39, 3) := by decide +kernel
theorem dJx4a65c_init_da8c8_8 : decode cJx4a65c_init_da8c8 8 = .ok (.putfield 9, 3) := by decide +kernel
theorem dJx4a65c_init_da8c8_11 : decode cJx4a65c_init_da8c8 11 = .ok (.return_, 1) := by decide +kernel
theorem dJx4a65c_grow_92f84_0 : decode cJx4a65c_grow_92f84 0 = .ok (.aload_n 0, 1) := by decide +kernel
theorem dJx4a65c_grow_92f84_1 : decode cJx4a65c_grow_92f84 1 = .ok (.getfield 9, 3) := by decide +kernel
theorem dJx4a65c_grow_92f84_4 : decode cJx4a65c_grow_92f84 4 = .ok (.arraylength, 1) := by decide +kernel
theorem dJx4a65c_grow_92f84_5 : decode cJx4a65c_grow_92f84 5 = .ok (.istore_n 2, 1) := by decide +kernel
theorem dJx4a65c_grow_92f84_6 : decode cJx4a65c_grow_92f84 6 = .ok (.iload_n 2, 1) := by decide +kernel
theorem dJx4a65c_grow_92f84_7 : decode cJx4a65c_grow_92f84 7 = .ok (.ifCond .gt 13, 3) := by decide +kernel
theorem dJx4a65c_grow_92f84_10 : decode cJx4a65c_grow_92f84 10 = .ok (.aload_n 0, 1) := by decide +kernel
theorem dJx4a65c_grow_92f84_11 : decode cJx4a65c_grow_92f84 11 = .ok (.getfield 9, 3) := by decide +kernel
theorem dJx4a65c_grow_92f84_14 : decode cJx4a65c_grow_92f84 14 = .ok (.getstatic 39, 3) := by decide +kernel
theorem dJx4a65c_grow_92f84_17 : decode cJx4a65c_grow_92f84 17 = .ok (.if_acmp .eq 28, 3) := by decide +kernel
theorem dJx4a65c_grow_92f84_20 : decode cJx4a65c_grow_92f84 20 = .ok (.iload_n 2, 1) := by decide +kernel
theorem dJx4a65c_grow_92f84_21 : decode cJx4a65c_grow_92f84 21 = .ok (.iload_n 1, 1) := by decide +kernel
theorem dJx4a65c_grow_92f84_22 : decode cJx4a65c_grow_92f84 22 = .ok (.iload_n 2, 1) := by decide +kernel
theorem dJx4a65c_grow_92f84_23 : decode cJx4a65c_grow_92f84 23 = .ok (.isub, 1) := by decide +kernel
theorem dJx4a65c_grow_92f84_24 : decode cJx4a65c_grow_92f84 24 = .ok (.iload_n 2, 1) := by decide +kernel
theorem dJx4a65c_grow_92f84_25 : decode cJx4a65c_grow_92f84 25 = .ok (.iconst 1, 1) := by decide +kernel
theorem dJx4a65c_grow_92f84_26 : decode cJx4a65c_grow_92f84 26 = .ok (.ishr, 1) := by decide +kernel
theorem dJx4a65c_grow_92f84_27 : decode cJx4a65c_grow_92f84 27 = .ok (.invokestatic 73, 3) := by decide +kernel
theorem dJx4a65c_grow_92f84_30 : decode cJx4a65c_grow_92f84 30 = .ok (.istore_n 3, 1) := by decide +kernel
theorem dJx4a65c_grow_92f84_31 : decode cJx4a65c_grow_92f84 31 = .ok (.aload_n 0, 1) := by decide +kernel
theorem dJx4a65c_grow_92f84_32 : decode cJx4a65c_grow_92f84 32 = .ok (.aload_n 0, 1) := by decide +kernel
theorem dJx4a65c_grow_92f84_33 : decode cJx4a65c_grow_92f84 33 = .ok (.getfield 9, 3) := by decide +kernel
theorem dJx4a65c_grow_92f84_36 : decode cJx4a65c_grow_92f84 36 = .ok (.iload_n 3, 1) := by decide +kernel
theorem dJx4a65c_grow_92f84_37 : decode cJx4a65c_grow_92f84 37 = .ok (.invokestatic 66, 3) := by decide +kernel
theorem dJx4a65c_grow_92f84_40 : decode cJx4a65c_grow_92f84 40 = .ok (.dup_x1, 1) := by decide +kernel
theorem dJx4a65c_grow_92f84_41 : decode cJx4a65c_grow_92f84 41 = .ok (.putfield 9, 3) := by decide +kernel
theorem dJx4a65c_grow_92f84_44 : decode cJx4a65c_grow_92f84 44 = .ok (.areturn, 1) := by decide +kernel
theorem dJx4a65c_grow_92f84_45 : decode cJx4a65c_grow_92f84 45 = .ok (.aload_n 0, 1) := by decide +kernel
theorem dJx4a65c_grow_92f84_46 : decode cJx4a65c_grow_92f84 46 = .ok (.bipush 10, 2) := by decide +kernel
theorem dJx4a65c_grow_92f84_48 : decode cJx4a65c_grow_92f84 48 = .ok (.iload_n 1, 1) := by decide +kernel
theorem dJx4a65c_grow_92f84_49 : decode cJx4a65c_grow_92f84 49 = .ok (.invokestatic 79, 3) := by decide +kernel
theorem dJx4a65c_grow_92f84_52 : decode cJx4a65c_grow_92f84 52 = .ok (.anewarray 7, 3) := by decide +kernel
theorem dJx4a65c_grow_92f84_55 : decode cJx4a65c_grow_92f84 55 = .ok (.dup_x1, 1) := by decide +kernel
theorem dJx4a65c_grow_92f84_56 : decode cJx4a65c_grow_92f84 56 = .ok (.putfield 9, 3) := by decide +kernel
theorem dJx4a65c_grow_92f84_59 : decode cJx4a65c_grow_92f84 59 = .ok (.areturn, 1) := by decide +kernel
theorem dJx4a65c_grow_d5877_0 : decode cJx4a65c_grow_d5877 0 = .ok (.aload_n 0, 1) := by decide +kernel
theorem dJx4a65c_grow_d5877_1 : decode cJx4a65c_grow_d5877 1 = .ok (.aload_n 0, 1) := by decide +kernel
theorem dJx4a65c_grow_d5877_2 : decode cJx4a65c_grow_d5877 2 = .ok (.getfield 48, 3) := by decide +kernel
theorem dJx4a65c_grow_d5877_5 : decode cJx4a65c_grow_d5877 5 = .ok (.iconst 1, 1) := by decide +kernel
theorem dJx4a65c_grow_d5877_6 : decode cJx4a65c_grow_d5877 6 = .ok (.iadd, 1) := by decide +kernel
theorem dJx4a65c_grow_d5877_7 : decode cJx4a65c_grow_d5877 7 = .ok (.invokevirtual 69, 3) := by decide +kernel
theorem dJx4a65c_grow_d5877_10 : decode cJx4a65c_grow_d5877 10 = .ok (.areturn, 1) := by decide +kernel
theorem dJx4a65c_size_8abf5_0 : decode cJx4a65c_size_8abf5 0 = .ok (.aload_n 0, 1) := by decide +kernel
theorem dJx4a65c_size_8abf5_1 : decode cJx4a65c_size_8abf5 1 = .ok (.getfield 48, 3) := by decide +kernel
theorem dJx4a65c_size_8abf5_4 : decode cJx4a65c_size_8abf5 4 = .ok (.ireturn, 1) := by decide +kernel
theorem dJx4a65c_isEmpty_aae02_0 : decode cJx4a65c_isEmpty_aae02 0 = .ok (.aload_n 0, 1) := by decide +kernel
theorem dJx4a65c_isEmpty_aae02_1 : decode cJx4a65c_isEmpty_aae02 1 = .ok (.getfield 48, 3) := by decide +kernel
theorem dJx4a65c_isEmpty_aae02_4 : decode cJx4a65c_isEmpty_aae02 4 = .ok (.ifCond .ne 7, 3) := by decide +kernel
theorem dJx4a65c_isEmpty_aae02_7 : decode cJx4a65c_isEmpty_aae02 7 = .ok (.iconst 1, 1) := by decide +kernel
theorem dJx4a65c_isEmpty_aae02_8 : decode cJx4a65c_isEmpty_aae02 8 = .ok (.goto 4, 3) := by decide +kernel
theorem dJx4a65c_isEmpty_aae02_11 : decode cJx4a65c_isEmpty_aae02 11 = .ok (.iconst 0, 1) := by decide +kernel
theorem dJx4a65c_isEmpty_aae02_12 : decode cJx4a65c_isEmpty_aae02 12 = .ok (.ireturn, 1) := by decide +kernel
theorem dJx4a65c_elementData_915e3_0 : decode cJx4a65c_elementData_915e3 0 = .ok (.aload_n 0, 1) := by decide +kernel
theorem dJx4a65c_elementData_915e3_1 : decode cJx4a65c_elementData_915e3 1 = .ok (.getfield 9, 3) := by decide +kernel
theorem dJx4a65c_elementData_915e3_4 : decode cJx4a65c_elementData_915e3 4 = .ok (.iload_n 1, 1) := by decide +kernel
theorem dJx4a65c_elementData_915e3_5 : decode cJx4a65c_elementData_915e3 5 = .ok (.aaload, 1) := by decide +kernel
theorem dJx4a65c_elementData_915e3_6 : decode cJx4a65c_elementData_915e3 6 = .ok (.areturn, 1) := by decide +kernel
theorem dJx4a65c_get_915e3_0 : decode cJx4a65c_get_915e3 0 = .ok (.iload_n 1, 1) := by decide +kernel
theorem dJx4a65c_get_915e3_1 : decode cJx4a65c_get_915e3 1 = .ok (.aload_n 0, 1) := by decide +kernel
theorem dJx4a65c_get_915e3_2 : decode cJx4a65c_get_915e3 2 = .ok (.getfield 48, 3) := by decide +kernel
theorem dJx4a65c_get_915e3_5 : decode cJx4a65c_get_915e3 5 = .ok (.invokestatic 118, 3) := by decide +kernel
theorem dJx4a65c_get_915e3_8 : decode cJx4a65c_get_915e3 8 = .ok (.pop, 1) := by decide +kernel
theorem dJx4a65c_get_915e3_9 : decode cJx4a65c_get_915e3 9 = .ok (.aload_n 0, 1) := by decide +kernel
theorem dJx4a65c_get_915e3_10 : decode cJx4a65c_get_915e3 10 = .ok (.iload_n 1, 1) := by decide +kernel
theorem dJx4a65c_get_915e3_11 : decode cJx4a65c_get_915e3 11 = .ok (.invokevirtual 123, 3) := by decide +kernel
theorem dJx4a65c_get_915e3_14 : decode cJx4a65c_get_915e3 14 = .ok (.areturn, 1) := by decide +kernel
theorem dJx4a65c_add_72be8_0 : decode cJx4a65c_add_72be8 0 = .ok (.iload_n 3, 1) := by decide +kernel
theorem dJx4a65c_add_72be8_1 : decode cJx4a65c_add_72be8 1 = .ok (.aload_n 2, 1) := by decide +kernel
theorem dJx4a65c_add_72be8_2 : decode cJx4a65c_add_72be8 2 = .ok (.arraylength, 1) := by decide +kernel
theorem dJx4a65c_add_72be8_3 : decode cJx4a65c_add_72be8 3 = .ok (.if_icmp .ne 8, 3) := by decide +kernel
theorem dJx4a65c_add_72be8_6 : decode cJx4a65c_add_72be8 6 = .ok (.aload_n 0, 1) := by decide +kernel
theorem dJx4a65c_add_72be8_7 : decode cJx4a65c_add_72be8 7 = .ok (.invokevirtual 129, 3) := by decide +kernel
theorem dJx4a65c_add_72be8_10 : decode cJx4a65c_add_72be8 10 = .ok (.astore_n 2, 1) := by decide +kernel
theorem dJx4a65c_add_72be8_11 : decode cJx4a65c_add_72be8 11 = .ok (.aload_n 2, 1) := by decide +kernel
theorem dJx4a65c_add_72be8_12 : decode cJx4a65c_add_72be8 12 = .ok (.iload_n 3, 1) := by decide +kernel
theorem dJx4a65c_add_72be8_13 : decode cJx4a65c_add_72be8 13 = .ok (.aload_n 1, 1) := by decide +kernel
theorem dJx4a65c_add_72be8_14 : decode cJx4a65c_add_72be8 14 = .ok (.aastore, 1) := by decide +kernel
theorem dJx4a65c_add_72be8_15 : decode cJx4a65c_add_72be8 15 = .ok (.aload_n 0, 1) := by decide +kernel
theorem dJx4a65c_add_72be8_16 : decode cJx4a65c_add_72be8 16 = .ok (.iload_n 3, 1) := by decide +kernel
theorem dJx4a65c_add_72be8_17 : decode cJx4a65c_add_72be8 17 = .ok (.iconst 1, 1) := by decide +kernel
theorem dJx4a65c_add_72be8_18 : decode cJx4a65c_add_72be8 18 = .ok (.iadd, 1) := by decide +kernel
theorem dJx4a65c_add_72be8_19 : decode cJx4a65c_add_72be8 19 = .ok (.putfield 48, 3) := by decide +kernel
theorem dJx4a65c_add_72be8_22 : decode cJx4a65c_add_72be8 22 = .ok (.return_, 1) := by decide +kernel
theorem dJx4a65c_add_9ea2d_0 : decode cJx4a65c_add_9ea2d 0 = .ok (.aload_n 0, 1) := by decide +kernel
theorem dJx4a65c_add_9ea2d_1 : decode cJx4a65c_add_9ea2d 1 = .ok (.dup, 1) := by decide +kernel
theorem dJx4a65c_add_9ea2d_2 : decode cJx4a65c_add_9ea2d 2 = .ok (.getfield 63, 3) := by decide +kernel
theorem dJx4a65c_add_9ea2d_5 : decode cJx4a65c_add_9ea2d 5 = .ok (.iconst 1, 1) := by decide +kernel
theorem dJx4a65c_add_9ea2d_6 : decode cJx4a65c_add_9ea2d 6 = .ok (.iadd, 1) := by decide +kernel
theorem dJx4a65c_add_9ea2d_7 : decode cJx4a65c_add_9ea2d 7 = .ok (.putfield 63, 3) := by decide +kernel
theorem dJx4a65c_add_9ea2d_10 : decode cJx4a65c_add_9ea2d 10 = .ok (.aload_n 0, 1) := by decide +kernel
theorem dJx4a65c_add_9ea2d_11 : decode cJx4a65c_add_9ea2d 11 = .ok (.aload_n 1, 1) := by decide +kernel
theorem dJx4a65c_add_9ea2d_12 : decode cJx4a65c_add_9ea2d 12 = .ok (.aload_n 0, 1) := by decide +kernel
theorem dJx4a65c_add_9ea2d_13 : decode cJx4a65c_add_9ea2d 13 = .ok (.getfield 9, 3) := by decide +kernel
theorem dJx4a65c_add_9ea2d_16 : decode cJx4a65c_add_9ea2d 16 = .ok (.aload_n 0, 1) := by decide +kernel
theorem dJx4a65c_add_9ea2d_17 : decode cJx4a65c_add_9ea2d 17 = .ok (.getfield 48, 3) := by decide +kernel
theorem dJx4a65c_add_9ea2d_20 : decode cJx4a65c_add_9ea2d 20 = .ok (.invokevirtual 131, 3) := by decide +kernel
theorem dJx4a65c_add_9ea2d_23 : decode cJx4a65c_add_9ea2d 23 = .ok (.iconst 1, 1) := by decide +kernel
theorem dJx4a65c_add_9ea2d_24 : decode cJx4a65c_add_9ea2d 24 = .ok (.ireturn, 1) := by decide +kernel
theorem dJx4a65c_remove_915e3_0 : decode cJx4a65c_remove_915e3 0 = .ok (.iload_n 1, 1) := by decide +kernel
theorem dJx4a65c_remove_915e3_1 : decode cJx4a65c_remove_915e3 1 = .ok (.aload_n 0, 1) := by decide +kernel
theorem dJx4a65c_remove_915e3_2 : decode cJx4a65c_remove_915e3 2 = .ok (.getfield 48, 3) := by decide +kernel
theorem dJx4a65c_remove_915e3_5 : decode cJx4a65c_remove_915e3 5 = .ok (.invokestatic 118, 3) := by decide +kernel
theorem dJx4a65c_remove_915e3_8 : decode cJx4a65c_remove_915e3 8 = .ok (.pop, 1) := by decide +kernel
theorem dJx4a65c_remove_915e3_9 : decode cJx4a65c_remove_915e3 9 = .ok (.aload_n 0, 1) := by decide +kernel
theorem dJx4a65c_remove_915e3_10 : decode cJx4a65c_remove_915e3 10 = .ok (.getfield 9, 3) := by decide +kernel
theorem dJx4a65c_remove_915e3_13 : decode cJx4a65c_remove_915e3 13 = .ok (.astore_n 2, 1) := by decide +kernel
theorem dJx4a65c_remove_915e3_14 : decode cJx4a65c_remove_915e3 14 = .ok (.aload_n 2, 1) := by decide +kernel
theorem dJx4a65c_remove_915e3_15 : decode cJx4a65c_remove_915e3 15 = .ok (.iload_n 1, 1) := by decide +kernel
theorem dJx4a65c_remove_915e3_16 : decode cJx4a65c_remove_915e3 16 = .ok (.aaload, 1) := by decide +kernel
theorem dJx4a65c_remove_915e3_17 : decode cJx4a65c_remove_915e3 17 = .ok (.astore_n 3, 1) := by decide +kernel
theorem dJx4a65c_remove_915e3_18 : decode cJx4a65c_remove_915e3 18 = .ok (.aload_n 0, 1) := by decide +kernel
theorem dJx4a65c_remove_915e3_19 : decode cJx4a65c_remove_915e3 19 = .ok (.aload_n 2, 1) := by decide +kernel
theorem dJx4a65c_remove_915e3_20 : decode cJx4a65c_remove_915e3 20 = .ok (.iload_n 1, 1) := by decide +kernel
theorem dJx4a65c_remove_915e3_21 : decode cJx4a65c_remove_915e3 21 = .ok (.invokevirtual 144, 3) := by decide +kernel
theorem dJx4a65c_remove_915e3_24 : decode cJx4a65c_remove_915e3 24 = .ok (.aload_n 3, 1) := by decide +kernel
theorem dJx4a65c_remove_915e3_25 : decode cJx4a65c_remove_915e3 25 = .ok (.areturn, 1) := by decide +kernel
theorem dJx4a65c_fastRemove_b59b0_0 : decode cJx4a65c_fastRemove_b59b0 0 = .ok (.aload_n 0, 1) := by decide +kernel
theorem dJx4a65c_fastRemove_b59b0_1 : decode cJx4a65c_fastRemove_b59b0 1 = .ok (.dup, 1) := by decide +kernel
theorem dJx4a65c_fastRemove_b59b0_2 : decode cJx4a65c_fastRemove_b59b0 2 = .ok (.getfield 63, 3) := by decide +kernel
theorem dJx4a65c_fastRemove_b59b0_5 : decode cJx4a65c_fastRemove_b59b0 5 = .ok (.iconst 1, 1) := by decide +kernel
theorem dJx4a65c_fastRemove_b59b0_6 : decode cJx4a65c_fastRemove_b59b0 6 = .ok (.iadd, 1) := by decide +kernel
theorem dJx4a65c_fastRemove_b59b0_7 : decode cJx4a65c_fastRemove_b59b0 7 = .ok (.putfield 63, 3) := by decide +kernel
theorem dJx4a65c_fastRemove_b59b0_10 : decode cJx4a65c_fastRemove_b59b0 10 = .ok (.aload_n 0, 1) := by decide +kernel
theorem dJx4a65c_fastRemove_b59b0_11 : decode cJx4a65c_fastRemove_b59b0 11 = .ok (.getfield 48, 3) := by decide +kernel
theorem dJx4a65c_fastRemove_b59b0_14 : decode cJx4a65c_fastRemove_b59b0 14 = .ok (.iconst 1, 1) := by decide +kernel
theorem dJx4a65c_fastRemove_b59b0_15 : decode cJx4a65c_fastRemove_b59b0 15 = .ok (.isub, 1) := by decide +kernel
theorem dJx4a65c_fastRemove_b59b0_16 : decode cJx4a65c_fastRemove_b59b0 16 = .ok (.dup, 1) := by decide +kernel
theorem dJx4a65c_fastRemove_b59b0_17 : decode cJx4a65c_fastRemove_b59b0 17 = .ok (.istore_n 3, 1) := by decide +kernel
theorem dJx4a65c_fastRemove_b59b0_18 : decode cJx4a65c_fastRemove_b59b0 18 = .ok (.iload_n 2, 1) := by decide +kernel
theorem dJx4a65c_fastRemove_b59b0_19 : decode cJx4a65c_fastRemove_b59b0 19 = .ok (.if_icmp .le 15, 3) := by decide +kernel
theorem dJx4a65c_fastRemove_b59b0_22 : decode cJx4a65c_fastRemove_b59b0 22 = .ok (.aload_n 1, 1) := by decide +kernel
theorem dJx4a65c_fastRemove_b59b0_23 : decode cJx4a65c_fastRemove_b59b0 23 = .ok (.iload_n 2, 1) := by decide +kernel
theorem dJx4a65c_fastRemove_b59b0_24 : decode cJx4a65c_fastRemove_b59b0 24 = .ok (.iconst 1, 1) := by decide +kernel
theorem dJx4a65c_fastRemove_b59b0_25 : decode cJx4a65c_fastRemove_b59b0 25 = .ok (.iadd, 1) := by decide +kernel
theorem dJx4a65c_fastRemove_b59b0_26 : decode cJx4a65c_fastRemove_b59b0 26 = .ok (.aload_n 1, 1) := by decide +kernel
theorem dJx4a65c_fastRemove_b59b0_27 : decode cJx4a65c_fastRemove_b59b0 27 = .ok (.iload_n 2, 1) := by decide +kernel
theorem dJx4a65c_fastRemove_b59b0_28 : decode cJx4a65c_fastRemove_b59b0 28 = .ok (.iload_n 3, 1) := by decide +kernel
theorem dJx4a65c_fastRemove_b59b0_29 : decode cJx4a65c_fastRemove_b59b0 29 = .ok (.iload_n 2, 1) := by decide +kernel
theorem dJx4a65c_fastRemove_b59b0_30 : decode cJx4a65c_fastRemove_b59b0 30 = .ok (.isub, 1) := by decide +kernel
theorem dJx4a65c_fastRemove_b59b0_31 : decode cJx4a65c_fastRemove_b59b0 31 = .ok (.invokestatic 112, 3) := by decide +kernel
theorem dJx4a65c_fastRemove_b59b0_34 : decode cJx4a65c_fastRemove_b59b0 34 = .ok (.aload_n 1, 1) := by decide +kernel
theorem dJx4a65c_fastRemove_b59b0_35 : decode cJx4a65c_fastRemove_b59b0 35 = .ok (.aload_n 0, 1) := by decide +kernel
theorem dJx4a65c_fastRemove_b59b0_36 : decode cJx4a65c_fastRemove_b59b0 36 = .ok (.iload_n 3, 1) := by decide +kernel
theorem dJx4a65c_fastRemove_b59b0_37 : decode cJx4a65c_fastRemove_b59b0 37 = .ok (.dup_x1, 1) := by decide +kernel
theorem dJx4a65c_fastRemove_b59b0_38 : decode cJx4a65c_fastRemove_b59b0 38 = .ok (.putfield 48, 3) := by decide +kernel
theorem dJx4a65c_fastRemove_b59b0_41 : decode cJx4a65c_fastRemove_b59b0 41 = .ok (.aconst_null, 1) := by decide +kernel
theorem dJx4a65c_fastRemove_b59b0_42 : decode cJx4a65c_fastRemove_b59b0 42 = .ok (.aastore, 1) := by decide +kernel
theorem dJx4a65c_fastRemove_b59b0_43 : decode cJx4a65c_fastRemove_b59b0 43 = .ok (.return_, 1) := by decide +kernel
theorem dJ7_fill_53178_0 : decode cJ7_fill_53178 0 = .ok (.iconst 0, 1) := by decide +kernel
theorem dJ7_fill_53178_1 : decode cJ7_fill_53178 1 = .ok (.istore_n 2, 1) := by decide +kernel
theorem dJ7_fill_53178_2 : decode cJ7_fill_53178 2 = .ok (.aload_n 0, 1) := by decide +kernel
theorem dJ7_fill_53178_3 : decode cJ7_fill_53178 3 = .ok (.arraylength, 1) := by decide +kernel
theorem dJ7_fill_53178_4 : decode cJ7_fill_53178 4 = .ok (.istore_n 3, 1) := by decide +kernel
theorem dJ7_fill_53178_5 : decode cJ7_fill_53178 5 = .ok (.iload_n 2, 1) := by decide +kernel
theorem dJ7_fill_53178_6 : decode cJ7_fill_53178 6 = .ok (.iload_n 3, 1) := by decide +kernel
theorem dJ7_fill_53178_7 : decode cJ7_fill_53178 7 = .ok (.if_icmp .ge 13, 3) := by decide +kernel
theorem dJ7_fill_53178_10 : decode cJ7_fill_53178 10 = .ok (.aload_n 0, 1) := by decide +kernel
theorem dJ7_fill_53178_11 : decode cJ7_fill_53178 11 = .ok (.iload_n 2, 1) := by decide +kernel
theorem dJ7_fill_53178_12 : decode cJ7_fill_53178 12 = .ok (.iload_n 1, 1) := by decide +kernel
theorem dJ7_fill_53178_13 : decode cJ7_fill_53178 13 = .ok (.iastore, 1) := by decide +kernel
theorem dJ7_fill_53178_14 : decode cJ7_fill_53178 14 = .ok (.iinc 2 1, 3) := by decide +kernel
theorem dJ7_fill_53178_17 : decode cJ7_fill_53178 17 = .ok (.goto (-12), 3) := by decide +kernel
theorem dJ7_fill_53178_20 : decode cJ7_fill_53178 20 = .ok (.return_, 1) := by decide +kernel
theorem dJ7_copyOf_1904c_0 : decode cJ7_copyOf_1904c 0 = .ok (.aload_n 0, 1) := by decide +kernel
theorem dJ7_copyOf_1904c_1 : decode cJ7_copyOf_1904c 1 = .ok (.iload_n 1, 1) := by decide +kernel
theorem dJ7_copyOf_1904c_2 : decode cJ7_copyOf_1904c 2 = .ok (.aload_n 0, 1) := by decide +kernel
theorem dJ7_copyOf_1904c_3 : decode cJ7_copyOf_1904c 3 = .ok (.invokevirtual 86, 3) := by decide +kernel
theorem dJ7_copyOf_1904c_6 : decode cJ7_copyOf_1904c 6 = .ok (.invokestatic 300, 3) := by decide +kernel
theorem dJ7_copyOf_1904c_9 : decode cJ7_copyOf_1904c 9 = .ok (.areturn, 1) := by decide +kernel
theorem dJ7_copyOf_6403c_0 : decode cJ7_copyOf_6403c 0 = .ok (.aload_n 2, 1) := by decide +kernel
theorem dJ7_copyOf_6403c_1 : decode cJ7_copyOf_6403c 1 = .ok (.ldc 110, 2) := by decide +kernel
theorem dJ7_copyOf_6403c_3 : decode cJ7_copyOf_6403c 3 = .ok (.if_acmp .ne 10, 3) := by decide +kernel
theorem dJ7_copyOf_6403c_6 : decode cJ7_copyOf_6403c 6 = .ok (.iload_n 1, 1) := by decide +kernel
theorem dJ7_copyOf_6403c_7 : decode cJ7_copyOf_6403c 7 = .ok (.anewarray 2, 3) := by decide +kernel
theorem dJ7_copyOf_6403c_10 : decode cJ7_copyOf_6403c 10 = .ok (.goto 14, 3) := by decide +kernel
theorem dJ7_copyOf_6403c_13 : decode cJ7_copyOf_6403c 13 = .ok (.aload_n 2, 1) := by decide +kernel
theorem dJ7_copyOf_6403c_14 : decode cJ7_copyOf_6403c 14 = .ok (.invokevirtual 90, 3) := by decide +kernel
theorem dJ7_copyOf_6403c_17 : decode cJ7_copyOf_6403c 17 = .ok (.iload_n 1, 1) := by decide +kernel
theorem dJ7_copyOf_6403c_18 : decode cJ7_copyOf_6403c 18 = .ok (.invokestatic 95, 3) := by decide +kernel
theorem dJ7_copyOf_6403c_21 : decode cJ7_copyOf_6403c 21 = .ok (.checkcast 110, 3) := by decide +kernel
theorem dJ7_copyOf_6403c_24 : decode cJ7_copyOf_6403c 24 = .ok (.astore_n 3, 1) := by decide +kernel
theorem dJ7_copyOf_6403c_25 : decode cJ7_copyOf_6403c 25 = .ok (.aload_n 0, 1) := by decide +kernel
theorem dJ7_copyOf_6403c_26 : decode cJ7_copyOf_6403c 26 = .ok (.iconst 0, 1) := by decide +kernel
theorem dJ7_copyOf_6403c_27 : decode cJ7_copyOf_6403c 27 = .ok (.aload_n 3, 1) := by decide +kernel
theorem dJ7_copyOf_6403c_28 : decode cJ7_copyOf_6403c 28 = .ok (.iconst 0, 1) := by decide +kernel
theorem dJ7_copyOf_6403c_29 : decode cJ7_copyOf_6403c 29 = .ok (.aload_n 0, 1) := by decide +kernel
theorem dJ7_copyOf_6403c_30 : decode cJ7_copyOf_6403c 30 = .ok (.arraylength, 1) := by decide +kernel
theorem dJ7_copyOf_6403c_31 : decode cJ7_copyOf_6403c 31 = .ok (.iload_n 1, 1) := by decide +kernel
theorem dJ7_copyOf_6403c_32 : decode cJ7_copyOf_6403c 32 = .ok (.invokestatic 304, 3) := by decide +kernel
theorem dJ7_copyOf_6403c_35 : decode cJ7_copyOf_6403c 35 = .ok (.invokestatic 150, 3) := by decide +kernel
theorem dJ7_copyOf_6403c_38 : decode cJ7_copyOf_6403c 38 = .ok (.aload_n 3, 1) := by decide +kernel
theorem dJ7_copyOf_6403c_39 : decode cJ7_copyOf_6403c 39 = .ok (.areturn, 1) := by decide +kernel
theorem dJ15_checkIndex_7cf53_0 : decode cJ15_checkIndex_7cf53 0 = .ok (.iload_n 0, 1) := by decide +kernel
theorem dJ15_checkIndex_7cf53_1 : decode cJ15_checkIndex_7cf53 1 = .ok (.iload_n 1, 1) := by decide +kernel
theorem dJ15_checkIndex_7cf53_2 : decode cJ15_checkIndex_7cf53 2 = .ok (.aconst_null, 1) := by decide +kernel
theorem dJ15_checkIndex_7cf53_3 : decode cJ15_checkIndex_7cf53 3 = .ok (.invokestatic 105, 3) := by decide +kernel
theorem dJ15_checkIndex_7cf53_6 : decode cJ15_checkIndex_7cf53 6 = .ok (.ireturn, 1) := by decide +kernel
theorem dJ8_newLength_cabcc_0 : decode cJ8_newLength_cabcc 0 = .ok (.iload_n 0, 1) := by decide +kernel
theorem dJ8_newLength_cabcc_1 : decode cJ8_newLength_cabcc 1 = .ok (.iload_n 1, 1) := by decide +kernel
theorem dJ8_newLength_cabcc_2 : decode cJ8_newLength_cabcc 2 = .ok (.iload_n 2, 1) := by decide +kernel
theorem dJ8_newLength_cabcc_3 : decode cJ8_newLength_cabcc 3 = .ok (.invokestatic 194, 3) := by decide +kernel
theorem dJ8_newLength_cabcc_6 : decode cJ8_newLength_cabcc 6 = .ok (.iadd, 1) := by decide +kernel
theorem dJ8_newLength_cabcc_7 : decode cJ8_newLength_cabcc 7 = .ok (.istore_n 3, 1) := by decide +kernel
theorem dJ8_newLength_cabcc_8 : decode cJ8_newLength_cabcc 8 = .ok (.iconst 0, 1) := by decide +kernel
theorem dJ8_newLength_cabcc_9 : decode cJ8_newLength_cabcc 9 = .ok (.iload_n 3, 1) := by decide +kernel
theorem dJ8_newLength_cabcc_10 : decode cJ8_newLength_cabcc 10 = .ok (.if_icmp .ge 11, 3) := by decide +kernel
theorem dJ8_newLength_cabcc_13 : decode cJ8_newLength_cabcc 13 = .ok (.iload_n 3, 1) := by decide +kernel
theorem dJ8_newLength_cabcc_14 : decode cJ8_newLength_cabcc 14 = .ok (.ldc 200, 2) := by decide +kernel
theorem dJ8_newLength_cabcc_16 : decode cJ8_newLength_cabcc 16 = .ok (.if_icmp .gt 5, 3) := by decide +kernel
theorem dJ8_newLength_cabcc_19 : decode cJ8_newLength_cabcc 19 = .ok (.iload_n 3, 1) := by decide +kernel
theorem dJ8_newLength_cabcc_20 : decode cJ8_newLength_cabcc 20 = .ok (.ireturn, 1) := by decide +kernel
theorem dJ8_newLength_cabcc_21 : decode cJ8_newLength_cabcc 21 = .ok (.iload_n 0, 1) := by decide +kernel
theorem dJ8_newLength_cabcc_22 : decode cJ8_newLength_cabcc 22 = .ok (.iload_n 1, 1) := by decide +kernel
theorem dJ8_newLength_cabcc_23 : decode cJ8_newLength_cabcc 23 = .ok (.invokestatic 201, 3) := by decide +kernel
theorem dJ8_newLength_cabcc_26 : decode cJ8_newLength_cabcc 26 = .ok (.ireturn, 1) := by decide +kernel
theorem dJ8_hugeLength_7cf53_0 : decode cJ8_hugeLength_7cf53 0 = .ok (.iload_n 0, 1) := by decide +kernel
theorem dJ8_hugeLength_7cf53_1 : decode cJ8_hugeLength_7cf53 1 = .ok (.iload_n 1, 1) := by decide +kernel
theorem dJ8_hugeLength_7cf53_2 : decode cJ8_hugeLength_7cf53 2 = .ok (.iadd, 1) := by decide +kernel
theorem dJ8_hugeLength_7cf53_3 : decode cJ8_hugeLength_7cf53 3 = .ok (.istore_n 2, 1) := by decide +kernel
theorem dJ8_hugeLength_7cf53_4 : decode cJ8_hugeLength_7cf53 4 = .ok (.iload_n 2, 1) := by decide +kernel
theorem dJ8_hugeLength_7cf53_5 : decode cJ8_hugeLength_7cf53 5 = .ok (.ifCond .ge 44, 3) := by decide +kernel
theorem dJ8_hugeLength_7cf53_8 : decode cJ8_hugeLength_7cf53 8 = .ok (.new 204, 3) := by decide +kernel
theorem dJ8_hugeLength_7cf53_11 : decode cJ8_hugeLength_7cf53 11 = .ok (.dup, 1) := by decide +kernel
theorem dJ8_hugeLength_7cf53_12 : decode cJ8_hugeLength_7cf53 12 = .ok (.new 89, 3) := by decide +kernel
theorem dJ8_hugeLength_7cf53_15 : decode cJ8_hugeLength_7cf53 15 = .ok (.dup, 1) := by decide +kernel
theorem dJ8_hugeLength_7cf53_16 : decode cJ8_hugeLength_7cf53 16 = .ok (.invokespecial 91, 3) := by decide +kernel
theorem dJ8_hugeLength_7cf53_19 : decode cJ8_hugeLength_7cf53 19 = .ok (.ldc 206, 2) := by decide +kernel
theorem dJ8_hugeLength_7cf53_21 : decode cJ8_hugeLength_7cf53 21 = .ok (.invokevirtual 94, 3) := by decide +kernel
theorem dJ8_hugeLength_7cf53_24 : decode cJ8_hugeLength_7cf53 24 = .ok (.iload_n 0, 1) := by decide +kernel
theorem dJ8_hugeLength_7cf53_25 : decode cJ8_hugeLength_7cf53 25 = .ok (.invokevirtual 98, 3) := by decide +kernel
theorem dJ8_hugeLength_7cf53_28 : decode cJ8_hugeLength_7cf53 28 = .ok (.ldc 208, 2) := by decide +kernel
theorem dJ8_hugeLength_7cf53_30 : decode cJ8_hugeLength_7cf53 30 = .ok (.invokevirtual 94, 3) := by decide +kernel
theorem dJ8_hugeLength_7cf53_33 : decode cJ8_hugeLength_7cf53 33 = .ok (.iload_n 1, 1) := by decide +kernel
theorem dJ8_hugeLength_7cf53_34 : decode cJ8_hugeLength_7cf53 34 = .ok (.invokevirtual 98, 3) := by decide +kernel
theorem dJ8_hugeLength_7cf53_37 : decode cJ8_hugeLength_7cf53 37 = .ok (.ldc 210, 2) := by decide +kernel
theorem dJ8_hugeLength_7cf53_39 : decode cJ8_hugeLength_7cf53 39 = .ok (.invokevirtual 94, 3) := by decide +kernel
theorem dJ8_hugeLength_7cf53_42 : decode cJ8_hugeLength_7cf53 42 = .ok (.invokevirtual 101, 3) := by decide +kernel
theorem dJ8_hugeLength_7cf53_45 : decode cJ8_hugeLength_7cf53 45 = .ok (.invokespecial 212, 3) := by decide +kernel
theorem dJ8_hugeLength_7cf53_48 : decode cJ8_hugeLength_7cf53 48 = .ok (.athrow, 1) := by decide +kernel
theorem dJ8_hugeLength_7cf53_49 : decode cJ8_hugeLength_7cf53 49 = .ok (.iload_n 2, 1) := by decide +kernel
theorem dJ8_hugeLength_7cf53_50 : decode cJ8_hugeLength_7cf53 50 = .ok (.ldc 200, 2) := by decide +kernel
theorem dJ8_hugeLength_7cf53_52 : decode cJ8_hugeLength_7cf53 52 = .ok (.if_icmp .gt 6, 3) := by decide +kernel
theorem dJ8_hugeLength_7cf53_55 : decode cJ8_hugeLength_7cf53 55 = .ok (.ldc 200, 2) := by decide +kernel
theorem dJ8_hugeLength_7cf53_57 : decode cJ8_hugeLength_7cf53 57 = .ok (.ireturn, 1) := by decide +kernel
theorem dJ8_hugeLength_7cf53_58 : decode cJ8_hugeLength_7cf53 58 = .ok (.iload_n 2, 1) := by decide +kernel
theorem dJ8_hugeLength_7cf53_59 : decode cJ8_hugeLength_7cf53 59 = .ok (.ireturn, 1) := by decide +kernel
theorem dJ3_checkIndex_8e157_0 : decode cJ3_checkIndex_8e157 0 = .ok (.iload_n 0, 1) := by decide +kernel
theorem dJ3_checkIndex_8e157_1 : decode cJ3_checkIndex_8e157 1 = .ok (.ifCond .lt 8, 3) := by decide +kernel
theorem dJ3_checkIndex_8e157_4 : decode cJ3_checkIndex_8e157 4 = .ok (.iload_n 0, 1) := by decide +kernel
theorem dJ3_checkIndex_8e157_5 : decode cJ3_checkIndex_8e157 5 = .ok (.iload_n 1, 1) := by decide +kernel
theorem dJ3_checkIndex_8e157_6 : decode cJ3_checkIndex_8e157 6 = .ok (.if_icmp .lt 10, 3) := by decide +kernel
theorem dJ3_checkIndex_8e157_9 : decode cJ3_checkIndex_8e157 9 = .ok (.aload_n 2, 1) := by decide +kernel
theorem dJ3_checkIndex_8e157_10 : decode cJ3_checkIndex_8e157 10 = .ok (.iload_n 0, 1) := by decide +kernel
theorem dJ3_checkIndex_8e157_11 : decode cJ3_checkIndex_8e157 11 = .ok (.iload_n 1, 1) := by decide +kernel
theorem dJ3_checkIndex_8e157_12 : decode cJ3_checkIndex_8e157 12 = .ok (.invokestatic 95, 3) := by decide +kernel
theorem dJ3_checkIndex_8e157_15 : decode cJ3_checkIndex_8e157 15 = .ok (.athrow, 1) := by decide +kernel
theorem dJ3_checkIndex_8e157_16 : decode cJ3_checkIndex_8e157 16 = .ok (.iload_n 0, 1) := by decide +kernel
theorem dJ3_checkIndex_8e157_17 : decode cJ3_checkIndex_8e157 17 = .ok (.ireturn, 1) := by decide +kernel
theorem dL_seat_0 : decode cL_seat 0 = .ok (.aload_n 3, 1) := by decide +kernel
theorem dL_seat_1 : decode cL_seat 1 = .ok (.iconst 0, 1) := by decide +kernel
theorem dL_seat_2 : decode cL_seat 2 = .ok (.aload_n 0, 1) := by decide +kernel
theorem dL_seat_3 : decode cL_seat 3 = .ok (.iload_n 1, 1) := by decide +kernel
theorem dL_seat_4 : decode cL_seat 4 = .ok (.iload_n 2, 1) := by decide +kernel
theorem dL_seat_5 : decode cL_seat 5 = .ok (.invokevirtual 7, 3) := by decide +kernel
theorem dL_seat_8 : decode cL_seat 8 = .ok (.i2l, 1) := by decide +kernel
theorem dL_seat_9 : decode cL_seat 9 = .ok (.lastore, 1) := by decide +kernel
theorem dL_seat_10 : decode cL_seat 10 = .ok (.goto 11, 3) := by decide +kernel
theorem dL_seat_13 : decode cL_seat 13 = .ok (.astore 4, 2) := by decide +kernel
theorem dL_seat_15 : decode cL_seat 15 = .ok (.iconst 1, 1) := by decide +kernel
theorem dL_seat_16 : decode cL_seat 16 = .ok (.ireturn, 1) := by decide +kernel
theorem dL_seat_17 : decode cL_seat 17 = .ok (.astore 4, 2) := by decide +kernel
theorem dL_seat_19 : decode cL_seat 19 = .ok (.iconst 2, 1) := by decide +kernel
theorem dL_seat_20 : decode cL_seat 20 = .ok (.ireturn, 1) := by decide +kernel
theorem dL_seat_21 : decode cL_seat 21 = .ok (.iconst 0, 1) := by decide +kernel
theorem dL_seat_22 : decode cL_seat 22 = .ok (.ireturn, 1) := by decide +kernel
theorem dL_web_0 : decode cL_web 0 = .ok (.aload_n 3, 1) := by decide +kernel
theorem dL_web_1 : decode cL_web 1 = .ok (.iconst 0, 1) := by decide +kernel
theorem dL_web_2 : decode cL_web 2 = .ok (.aload_n 0, 1) := by decide +kernel
theorem dL_web_3 : decode cL_web 3 = .ok (.iload_n 1, 1) := by decide +kernel
theorem dL_web_4 : decode cL_web 4 = .ok (.iload_n 2, 1) := by decide +kernel
theorem dL_web_5 : decode cL_web 5 = .ok (.invokevirtual 17, 3) := by decide +kernel
theorem dL_web_8 : decode cL_web 8 = .ok (.i2l, 1) := by decide +kernel
theorem dL_web_9 : decode cL_web 9 = .ok (.lastore, 1) := by decide +kernel
theorem dL_web_10 : decode cL_web 10 = .ok (.goto 15, 3) := by decide +kernel
theorem dL_web_13 : decode cL_web 13 = .ok (.astore 4, 2) := by decide +kernel
theorem dL_web_15 : decode cL_web 15 = .ok (.iconst 1, 1) := by decide +kernel
theorem dL_web_16 : decode cL_web 16 = .ok (.ireturn, 1) := by decide +kernel
theorem dL_web_17 : decode cL_web 17 = .ok (.astore 4, 2) := by decide +kernel
theorem dL_web_19 : decode cL_web 19 = .ok (.iconst 2, 1) := by decide +kernel
theorem dL_web_20 : decode cL_web 20 = .ok (.ireturn, 1) := by decide +kernel
theorem dL_web_21 : decode cL_web 21 = .ok (.astore 4, 2) := by decide +kernel
theorem dL_web_23 : decode cL_web 23 = .ok (.iconst 3, 1) := by decide +kernel
theorem dL_web_24 : decode cL_web 24 = .ok (.ireturn, 1) := by decide +kernel
theorem dL_web_25 : decode cL_web 25 = .ok (.iconst 0, 1) := by decide +kernel
theorem dL_web_26 : decode cL_web 26 = .ok (.ireturn, 1) := by decide +kernel
theorem dL_spring_0 : decode cL_spring 0 = .ok (.aload 4, 2) := by decide +kernel
theorem dL_spring_2 : decode cL_spring 2 = .ok (.iconst 0, 1) := by decide +kernel
theorem dL_spring_3 : decode cL_spring 3 = .ok (.aload_n 0, 1) := by decide +kernel
theorem dL_spring_4 : decode cL_spring 4 = .ok (.iload_n 1, 1) := by decide +kernel
theorem dL_spring_5 : decode cL_spring 5 = .ok (.iload_n 2, 1) := by decide +kernel
theorem dL_spring_6 : decode cL_spring 6 = .ok (.iload_n 3, 1) := by decide +kernel
theorem dL_spring_7 : decode cL_spring 7 = .ok (.invokevirtual 24, 3) := by decide +kernel
theorem dL_spring_10 : decode cL_spring 10 = .ok (.i2l, 1) := by decide +kernel
theorem dL_spring_11 : decode cL_spring 11 = .ok (.lastore, 1) := by decide +kernel
theorem dL_spring_12 : decode cL_spring 12 = .ok (.goto 15, 3) := by decide +kernel
theorem dL_spring_15 : decode cL_spring 15 = .ok (.astore 5, 2) := by decide +kernel
theorem dL_spring_17 : decode cL_spring 17 = .ok (.iconst 1, 1) := by decide +kernel
theorem dL_spring_18 : decode cL_spring 18 = .ok (.ireturn, 1) := by decide +kernel
theorem dL_spring_19 : decode cL_spring 19 = .ok (.astore 5, 2) := by decide +kernel
theorem dL_spring_21 : decode cL_spring 21 = .ok (.iconst 2, 1) := by decide +kernel
theorem dL_spring_22 : decode cL_spring 22 = .ok (.ireturn, 1) := by decide +kernel
theorem dL_spring_23 : decode cL_spring 23 = .ok (.astore 5, 2) := by decide +kernel
theorem dL_spring_25 : decode cL_spring 25 = .ok (.iconst 3, 1) := by decide +kernel
theorem dL_spring_26 : decode cL_spring 26 = .ok (.ireturn, 1) := by decide +kernel
theorem dL_spring_27 : decode cL_spring 27 = .ok (.iconst 0, 1) := by decide +kernel
theorem dL_spring_28 : decode cL_spring 28 = .ok (.ireturn, 1) := by decide +kernel
theorem dL_change_0 : decode cL_change 0 = .ok (.aload 5, 2) := by decide +kernel
theorem dL_change_2 : decode cL_change 2 = .ok (.iconst 0, 1) := by decide +kernel
theorem dL_change_3 : decode cL_change 3 = .ok (.aload_n 0, 1) := by decide +kernel
theorem dL_change_4 : decode cL_change 4 = .ok (.iload_n 1, 1) := by decide +kernel
theorem dL_change_5 : decode cL_change 5 = .ok (.iload_n 2, 1) := by decide +kernel
theorem dL_change_6 : decode cL_change 6 = .ok (.iload_n 3, 1) := by decide +kernel
theorem dL_change_7 : decode cL_change 7 = .ok (.iload 4, 2) := by decide +kernel
theorem dL_change_9 : decode cL_change 9 = .ok (.invokevirtual 28, 3) := by decide +kernel
theorem dL_change_12 : decode cL_change 12 = .ok (.i2l, 1) := by decide +kernel
theorem dL_change_13 : decode cL_change 13 = .ok (.lastore, 1) := by decide +kernel
theorem dL_change_14 : decode cL_change 14 = .ok (.goto 15, 3) := by decide +kernel
theorem dL_change_17 : decode cL_change 17 = .ok (.astore 6, 2) := by decide +kernel
theorem dL_change_19 : decode cL_change 19 = .ok (.iconst 1, 1) := by decide +kernel
theorem dL_change_20 : decode cL_change 20 = .ok (.ireturn, 1) := by decide +kernel
theorem dL_change_21 : decode cL_change 21 = .ok (.astore 6, 2) := by decide +kernel
theorem dL_change_23 : decode cL_change 23 = .ok (.iconst 2, 1) := by decide +kernel
theorem dL_change_24 : decode cL_change 24 = .ok (.ireturn, 1) := by decide +kernel
theorem dL_change_25 : decode cL_change 25 = .ok (.astore 6, 2) := by decide +kernel
theorem dL_change_27 : decode cL_change 27 = .ok (.iconst 3, 1) := by decide +kernel
theorem dL_change_28 : decode cL_change 28 = .ok (.ireturn, 1) := by decide +kernel
theorem dL_change_29 : decode cL_change 29 = .ok (.iconst 0, 1) := by decide +kernel
theorem dL_change_30 : decode cL_change 30 = .ok (.ireturn, 1) := by decide +kernel
theorem dL_tie_0 : decode cL_tie 0 = .ok (.aload_n 2, 1) := by decide +kernel
theorem dL_tie_1 : decode cL_tie 1 = .ok (.iconst 0, 1) := by decide +kernel
theorem dL_tie_2 : decode cL_tie 2 = .ok (.aload_n 0, 1) := by decide +kernel
theorem dL_tie_3 : decode cL_tie 3 = .ok (.iload_n 1, 1) := by decide +kernel
theorem dL_tie_4 : decode cL_tie 4 = .ok (.invokevirtual 32, 3) := by decide +kernel
theorem dL_tie_7 : decode cL_tie 7 = .ok (.i2l, 1) := by decide +kernel
theorem dL_tie_8 : decode cL_tie 8 = .ok (.lastore, 1) := by decide +kernel
theorem dL_tie_9 : decode cL_tie 9 = .ok (.goto 9, 3) := by decide +kernel
theorem dL_tie_12 : decode cL_tie 12 = .ok (.astore_n 3, 1) := by decide +kernel
theorem dL_tie_13 : decode cL_tie 13 = .ok (.iconst 1, 1) := by decide +kernel
theorem dL_tie_14 : decode cL_tie 14 = .ok (.ireturn, 1) := by decide +kernel
theorem dL_tie_15 : decode cL_tie 15 = .ok (.astore_n 3, 1) := by decide +kernel
theorem dL_tie_16 : decode cL_tie 16 = .ok (.iconst 2, 1) := by decide +kernel
theorem dL_tie_17 : decode cL_tie 17 = .ok (.ireturn, 1) := by decide +kernel
theorem dL_tie_18 : decode cL_tie 18 = .ok (.iconst 0, 1) := by decide +kernel
theorem dL_tie_19 : decode cL_tie 19 = .ok (.ireturn, 1) := by decide +kernel
theorem dL_pull_0 : decode cL_pull 0 = .ok (.aload 5, 2) := by decide +kernel
theorem dL_pull_2 : decode cL_pull 2 = .ok (.iconst 0, 1) := by decide +kernel
theorem dL_pull_3 : decode cL_pull 3 = .ok (.aload_n 0, 1) := by decide +kernel
theorem dL_pull_4 : decode cL_pull 4 = .ok (.iload_n 1, 1) := by decide +kernel
theorem dL_pull_5 : decode cL_pull 5 = .ok (.iload_n 2, 1) := by decide +kernel
theorem dL_pull_6 : decode cL_pull 6 = .ok (.iload_n 3, 1) := by decide +kernel
theorem dL_pull_7 : decode cL_pull 7 = .ok (.iload 4, 2) := by decide +kernel
theorem dL_pull_9 : decode cL_pull 9 = .ok (.invokevirtual 36, 3) := by decide +kernel
theorem dL_pull_12 : decode cL_pull 12 = .ok (.i2l, 1) := by decide +kernel
theorem dL_pull_13 : decode cL_pull 13 = .ok (.lastore, 1) := by decide +kernel
theorem dL_pull_14 : decode cL_pull 14 = .ok (.goto 15, 3) := by decide +kernel
theorem dL_pull_17 : decode cL_pull 17 = .ok (.astore 6, 2) := by decide +kernel
theorem dL_pull_19 : decode cL_pull 19 = .ok (.iconst 1, 1) := by decide +kernel
theorem dL_pull_20 : decode cL_pull 20 = .ok (.ireturn, 1) := by decide +kernel
theorem dL_pull_21 : decode cL_pull 21 = .ok (.astore 6, 2) := by decide +kernel
theorem dL_pull_23 : decode cL_pull 23 = .ok (.iconst 2, 1) := by decide +kernel
theorem dL_pull_24 : decode cL_pull 24 = .ok (.ireturn, 1) := by decide +kernel
theorem dL_pull_25 : decode cL_pull 25 = .ok (.astore 6, 2) := by decide +kernel
theorem dL_pull_27 : decode cL_pull 27 = .ok (.iconst 3, 1) := by decide +kernel
theorem dL_pull_28 : decode cL_pull 28 = .ok (.ireturn, 1) := by decide +kernel
theorem dL_pull_29 : decode cL_pull 29 = .ok (.iconst 0, 1) := by decide +kernel
theorem dL_pull_30 : decode cL_pull 30 = .ok (.ireturn, 1) := by decide +kernel
theorem dL_layer_0 : decode cL_layer 0 = .ok (.aload 5, 2) := by decide +kernel
theorem dL_layer_2 : decode cL_layer 2 = .ok (.iconst 0, 1) := by decide +kernel
theorem dL_layer_3 : decode cL_layer 3 = .ok (.aload_n 0, 1) := by decide +kernel
theorem dL_layer_4 : decode cL_layer 4 = .ok (.iload_n 1, 1) := by decide +kernel
theorem dL_layer_5 : decode cL_layer 5 = .ok (.iload_n 2, 1) := by decide +kernel
theorem dL_layer_6 : decode cL_layer 6 = .ok (.iload_n 3, 1) := by decide +kernel
theorem dL_layer_7 : decode cL_layer 7 = .ok (.iload 4, 2) := by decide +kernel
theorem dL_layer_9 : decode cL_layer 9 = .ok (.invokevirtual 40, 3) := by decide +kernel
theorem dL_layer_12 : decode cL_layer 12 = .ok (.i2l, 1) := by decide +kernel
theorem dL_layer_13 : decode cL_layer 13 = .ok (.lastore, 1) := by decide +kernel
theorem dL_layer_14 : decode cL_layer 14 = .ok (.goto 15, 3) := by decide +kernel
theorem dL_layer_17 : decode cL_layer 17 = .ok (.astore 6, 2) := by decide +kernel
theorem dL_layer_19 : decode cL_layer 19 = .ok (.iconst 1, 1) := by decide +kernel
theorem dL_layer_20 : decode cL_layer 20 = .ok (.ireturn, 1) := by decide +kernel
theorem dL_layer_21 : decode cL_layer 21 = .ok (.astore 6, 2) := by decide +kernel
theorem dL_layer_23 : decode cL_layer 23 = .ok (.iconst 2, 1) := by decide +kernel
theorem dL_layer_24 : decode cL_layer 24 = .ok (.ireturn, 1) := by decide +kernel
theorem dL_layer_25 : decode cL_layer 25 = .ok (.astore 6, 2) := by decide +kernel
theorem dL_layer_27 : decode cL_layer 27 = .ok (.iconst 3, 1) := by decide +kernel
theorem dL_layer_28 : decode cL_layer 28 = .ok (.ireturn, 1) := by decide +kernel
theorem dL_layer_29 : decode cL_layer 29 = .ok (.iconst 0, 1) := by decide +kernel
theorem dL_layer_30 : decode cL_layer 30 = .ok (.ireturn, 1) := by decide +kernel
theorem dL_buttons_0 : decode cL_buttons 0 = .ok (.aload_n 2, 1) := by decide +kernel
theorem dL_buttons_1 : decode cL_buttons 1 = .ok (.iconst 0, 1) := by decide +kernel
theorem dL_buttons_2 : decode cL_buttons 2 = .ok (.aload_n 0, 1) := by decide +kernel
theorem dL_buttons_3 : decode cL_buttons 3 = .ok (.iload_n 1, 1) := by decide +kernel
theorem dL_buttons_4 : decode cL_buttons 4 = .ok (.invokevirtual 44, 3) := by decide +kernel
theorem dL_buttons_7 : decode cL_buttons 7 = .ok (.i2l, 1) := by decide +kernel
theorem dL_buttons_8 : decode cL_buttons 8 = .ok (.lastore, 1) := by decide +kernel
theorem dL_buttons_9 : decode cL_buttons 9 = .ok (.goto 9, 3) := by decide +kernel
theorem dL_buttons_12 : decode cL_buttons 12 = .ok (.astore_n 3, 1) := by decide +kernel
theorem dL_buttons_13 : decode cL_buttons 13 = .ok (.iconst 1, 1) := by decide +kernel
theorem dL_buttons_14 : decode cL_buttons 14 = .ok (.ireturn, 1) := by decide +kernel
theorem dL_buttons_15 : decode cL_buttons 15 = .ok (.astore_n 3, 1) := by decide +kernel
theorem dL_buttons_16 : decode cL_buttons 16 = .ok (.iconst 2, 1) := by decide +kernel
theorem dL_buttons_17 : decode cL_buttons 17 = .ok (.ireturn, 1) := by decide +kernel
theorem dL_buttons_18 : decode cL_buttons 18 = .ok (.iconst 0, 1) := by decide +kernel
theorem dL_buttons_19 : decode cL_buttons 19 = .ok (.ireturn, 1) := by decide +kernel
theorem dL_draw_0 : decode cL_draw 0 = .ok (.aload 4, 2) := by decide +kernel
theorem dL_draw_2 : decode cL_draw 2 = .ok (.iconst 0, 1) := by decide +kernel
theorem dL_draw_3 : decode cL_draw 3 = .ok (.aload_n 0, 1) := by decide +kernel
theorem dL_draw_4 : decode cL_draw 4 = .ok (.iload_n 1, 1) := by decide +kernel
theorem dL_draw_5 : decode cL_draw 5 = .ok (.iload_n 2, 1) := by decide +kernel
theorem dL_draw_6 : decode cL_draw 6 = .ok (.iload_n 3, 1) := by decide +kernel
theorem dL_draw_7 : decode cL_draw 7 = .ok (.invokevirtual 47, 3) := by decide +kernel
theorem dL_draw_10 : decode cL_draw 10 = .ok (.i2l, 1) := by decide +kernel
theorem dL_draw_11 : decode cL_draw 11 = .ok (.lastore, 1) := by decide +kernel
theorem dL_draw_12 : decode cL_draw 12 = .ok (.goto 19, 3) := by decide +kernel
theorem dL_draw_15 : decode cL_draw 15 = .ok (.astore 5, 2) := by decide +kernel
theorem dL_draw_17 : decode cL_draw 17 = .ok (.iconst 1, 1) := by decide +kernel
theorem dL_draw_18 : decode cL_draw 18 = .ok (.ireturn, 1) := by decide +kernel
theorem dL_draw_19 : decode cL_draw 19 = .ok (.astore 5, 2) := by decide +kernel
theorem dL_draw_21 : decode cL_draw 21 = .ok (.iconst 2, 1) := by decide +kernel
theorem dL_draw_22 : decode cL_draw 22 = .ok (.ireturn, 1) := by decide +kernel
theorem dL_draw_23 : decode cL_draw 23 = .ok (.astore 5, 2) := by decide +kernel
theorem dL_draw_25 : decode cL_draw 25 = .ok (.iconst 3, 1) := by decide +kernel
theorem dL_draw_26 : decode cL_draw 26 = .ok (.ireturn, 1) := by decide +kernel
theorem dL_draw_27 : decode cL_draw 27 = .ok (.astore 5, 2) := by decide +kernel
theorem dL_draw_29 : decode cL_draw 29 = .ok (.iconst 4, 1) := by decide +kernel
theorem dL_draw_30 : decode cL_draw 30 = .ok (.ireturn, 1) := by decide +kernel
theorem dL_draw_31 : decode cL_draw 31 = .ok (.iconst 0, 1) := by decide +kernel
theorem dL_draw_32 : decode cL_draw 32 = .ok (.ireturn, 1) := by decide +kernel
theorem dL_cover_0 : decode cL_cover 0 = .ok (.aload 4, 2) := by decide +kernel
theorem dL_cover_2 : decode cL_cover 2 = .ok (.iconst 0, 1) := by decide +kernel
theorem dL_cover_3 : decode cL_cover 3 = .ok (.aload_n 0, 1) := by decide +kernel
theorem dL_cover_4 : decode cL_cover 4 = .ok (.iload_n 1, 1) := by decide +kernel
theorem dL_cover_5 : decode cL_cover 5 = .ok (.iload_n 2, 1) := by decide +kernel
theorem dL_cover_6 : decode cL_cover 6 = .ok (.iload_n 3, 1) := by decide +kernel
theorem dL_cover_7 : decode cL_cover 7 = .ok (.invokevirtual 50, 3) := by decide +kernel
theorem dL_cover_10 : decode cL_cover 10 = .ok (.i2l, 1) := by decide +kernel
theorem dL_cover_11 : decode cL_cover 11 = .ok (.lastore, 1) := by decide +kernel
theorem dL_cover_12 : decode cL_cover 12 = .ok (.goto 19, 3) := by decide +kernel
theorem dL_cover_15 : decode cL_cover 15 = .ok (.astore 5, 2) := by decide +kernel
theorem dL_cover_17 : decode cL_cover 17 = .ok (.iconst 1, 1) := by decide +kernel
theorem dL_cover_18 : decode cL_cover 18 = .ok (.ireturn, 1) := by decide +kernel
theorem dL_cover_19 : decode cL_cover 19 = .ok (.astore 5, 2) := by decide +kernel
theorem dL_cover_21 : decode cL_cover 21 = .ok (.iconst 2, 1) := by decide +kernel
theorem dL_cover_22 : decode cL_cover 22 = .ok (.ireturn, 1) := by decide +kernel
theorem dL_cover_23 : decode cL_cover 23 = .ok (.astore 5, 2) := by decide +kernel
theorem dL_cover_25 : decode cL_cover 25 = .ok (.iconst 3, 1) := by decide +kernel
theorem dL_cover_26 : decode cL_cover 26 = .ok (.ireturn, 1) := by decide +kernel
theorem dL_cover_27 : decode cL_cover 27 = .ok (.astore 5, 2) := by decide +kernel
theorem dL_cover_29 : decode cL_cover 29 = .ok (.iconst 4, 1) := by decide +kernel
theorem dL_cover_30 : decode cL_cover 30 = .ok (.ireturn, 1) := by decide +kernel
theorem dL_cover_31 : decode cL_cover 31 = .ok (.iconst 0, 1) := by decide +kernel
theorem dL_cover_32 : decode cL_cover 32 = .ok (.ireturn, 1) := by decide +kernel
theorem dL_sign_0 : decode cL_sign 0 = .ok (.aload_n 2, 1) := by decide +kernel
theorem dL_sign_1 : decode cL_sign 1 = .ok (.iconst 0, 1) := by decide +kernel
theorem dL_sign_2 : decode cL_sign 2 = .ok (.aload_n 0, 1) := by decide +kernel
theorem dL_sign_3 : decode cL_sign 3 = .ok (.iload_n 1, 1) := by decide +kernel
theorem dL_sign_4 : decode cL_sign 4 = .ok (.invokevirtual 55, 3) := by decide +kernel
theorem dL_sign_7 : decode cL_sign 7 = .ok (.i2l, 1) := by decide +kernel
theorem dL_sign_8 : decode cL_sign 8 = .ok (.lastore, 1) := by decide +kernel
theorem dL_sign_9 : decode cL_sign 9 = .ok (.goto 9, 3) := by decide +kernel
theorem dL_sign_12 : decode cL_sign 12 = .ok (.astore_n 3, 1) := by decide +kernel
theorem dL_sign_13 : decode cL_sign 13 = .ok (.iconst 1, 1) := by decide +kernel
theorem dL_sign_14 : decode cL_sign 14 = .ok (.ireturn, 1) := by decide +kernel
theorem dL_sign_15 : decode cL_sign 15 = .ok (.astore_n 3, 1) := by decide +kernel
theorem dL_sign_16 : decode cL_sign 16 = .ok (.iconst 2, 1) := by decide +kernel
theorem dL_sign_17 : decode cL_sign 17 = .ok (.ireturn, 1) := by decide +kernel
theorem dL_sign_18 : decode cL_sign 18 = .ok (.iconst 0, 1) := by decide +kernel
theorem dL_sign_19 : decode cL_sign 19 = .ok (.ireturn, 1) := by decide +kernel
theorem dL_open_0 : decode cL_open 0 = .ok (.aload_n 3, 1) := by decide +kernel
theorem dL_open_1 : decode cL_open 1 = .ok (.iconst 0, 1) := by decide +kernel
theorem dL_open_2 : decode cL_open 2 = .ok (.aload_n 0, 1) := by decide +kernel
theorem dL_open_3 : decode cL_open 3 = .ok (.iload_n 1, 1) := by decide +kernel
theorem dL_open_4 : decode cL_open 4 = .ok (.iload_n 2, 1) := by decide +kernel
theorem dL_open_5 : decode cL_open 5 = .ok (.invokevirtual 58, 3) := by decide +kernel
theorem dL_open_8 : decode cL_open 8 = .ok (.i2l, 1) := by decide +kernel
theorem dL_open_9 : decode cL_open 9 = .ok (.lastore, 1) := by decide +kernel
theorem dL_open_10 : decode cL_open 10 = .ok (.goto 11, 3) := by decide +kernel
theorem dL_open_13 : decode cL_open 13 = .ok (.astore 4, 2) := by decide +kernel
theorem dL_open_15 : decode cL_open 15 = .ok (.iconst 1, 1) := by decide +kernel
theorem dL_open_16 : decode cL_open 16 = .ok (.ireturn, 1) := by decide +kernel
theorem dL_open_17 : decode cL_open 17 = .ok (.astore 4, 2) := by decide +kernel
theorem dL_open_19 : decode cL_open 19 = .ok (.iconst 2, 1) := by decide +kernel
theorem dL_open_20 : decode cL_open 20 = .ok (.ireturn, 1) := by decide +kernel
theorem dL_open_21 : decode cL_open 21 = .ok (.iconst 0, 1) := by decide +kernel
theorem dL_open_22 : decode cL_open 22 = .ok (.ireturn, 1) := by decide +kernel
theorem dL_steps_0 : decode cL_steps 0 = .ok (.aload_n 2, 1) := by decide +kernel
theorem dL_steps_1 : decode cL_steps 1 = .ok (.iconst 0, 1) := by decide +kernel
theorem dL_steps_2 : decode cL_steps 2 = .ok (.aload_n 0, 1) := by decide +kernel
theorem dL_steps_3 : decode cL_steps 3 = .ok (.iload_n 1, 1) := by decide +kernel
theorem dL_steps_4 : decode cL_steps 4 = .ok (.invokevirtual 61, 3) := by decide +kernel
theorem dL_steps_7 : decode cL_steps 7 = .ok (.i2l, 1) := by decide +kernel
theorem dL_steps_8 : decode cL_steps 8 = .ok (.lastore, 1) := by decide +kernel
theorem dL_steps_9 : decode cL_steps 9 = .ok (.goto 6, 3) := by decide +kernel
theorem dL_steps_12 : decode cL_steps 12 = .ok (.astore_n 3, 1) := by decide +kernel
theorem dL_steps_13 : decode cL_steps 13 = .ok (.iconst 1, 1) := by decide +kernel
theorem dL_steps_14 : decode cL_steps 14 = .ok (.ireturn, 1) := by decide +kernel
theorem dL_steps_15 : decode cL_steps 15 = .ok (.iconst 0, 1) := by decide +kernel
theorem dL_steps_16 : decode cL_steps 16 = .ok (.ireturn, 1) := by decide +kernel
theorem dL_step_0 : decode cL_step 0 = .ok (.aload_n 3, 1) := by decide +kernel
theorem dL_step_1 : decode cL_step 1 = .ok (.iconst 0, 1) := by decide +kernel
theorem dL_step_2 : decode cL_step 2 = .ok (.aload_n 0, 1) := by decide +kernel
theorem dL_step_3 : decode cL_step 3 = .ok (.iload_n 1, 1) := by decide +kernel
theorem dL_step_4 : decode cL_step 4 = .ok (.iload_n 2, 1) := by decide +kernel
theorem dL_step_5 : decode cL_step 5 = .ok (.invokevirtual 64, 3) := by decide +kernel
theorem dL_step_8 : decode cL_step 8 = .ok (.i2l, 1) := by decide +kernel
theorem dL_step_9 : decode cL_step 9 = .ok (.lastore, 1) := by decide +kernel
theorem dL_step_10 : decode cL_step 10 = .ok (.goto 11, 3) := by decide +kernel
theorem dL_step_13 : decode cL_step 13 = .ok (.astore 4, 2) := by decide +kernel
theorem dL_step_15 : decode cL_step 15 = .ok (.iconst 1, 1) := by decide +kernel
theorem dL_step_16 : decode cL_step 16 = .ok (.ireturn, 1) := by decide +kernel
theorem dL_step_17 : decode cL_step 17 = .ok (.astore 4, 2) := by decide +kernel
theorem dL_step_19 : decode cL_step 19 = .ok (.iconst 2, 1) := by decide +kernel
theorem dL_step_20 : decode cL_step 20 = .ok (.ireturn, 1) := by decide +kernel
theorem dL_step_21 : decode cL_step 21 = .ok (.iconst 0, 1) := by decide +kernel
theorem dL_step_22 : decode cL_step 22 = .ok (.ireturn, 1) := by decide +kernel
theorem dL_isSigned_0 : decode cL_isSigned 0 = .ok (.aload_n 3, 1) := by decide +kernel
theorem dL_isSigned_1 : decode cL_isSigned 1 = .ok (.iconst 0, 1) := by decide +kernel
theorem dL_isSigned_2 : decode cL_isSigned 2 = .ok (.aload_n 0, 1) := by decide +kernel
theorem dL_isSigned_3 : decode cL_isSigned 3 = .ok (.iload_n 1, 1) := by decide +kernel
theorem dL_isSigned_4 : decode cL_isSigned 4 = .ok (.iload_n 2, 1) := by decide +kernel
theorem dL_isSigned_5 : decode cL_isSigned 5 = .ok (.invokevirtual 68, 3) := by decide +kernel
theorem dL_isSigned_8 : decode cL_isSigned 8 = .ok (.ifCond .eq 7, 3) := by decide +kernel
theorem dL_isSigned_11 : decode cL_isSigned 11 = .ok (.lconst 1, 1) := by decide +kernel
theorem dL_isSigned_12 : decode cL_isSigned 12 = .ok (.goto 4, 3) := by decide +kernel
theorem dL_isSigned_15 : decode cL_isSigned 15 = .ok (.lconst 0, 1) := by decide +kernel
theorem dL_isSigned_16 : decode cL_isSigned 16 = .ok (.lastore, 1) := by decide +kernel
theorem dL_isSigned_17 : decode cL_isSigned 17 = .ok (.goto 11, 3) := by decide +kernel
theorem dL_isSigned_20 : decode cL_isSigned 20 = .ok (.astore 4, 2) := by decide +kernel
theorem dL_isSigned_22 : decode cL_isSigned 22 = .ok (.iconst 1, 1) := by decide +kernel
theorem dL_isSigned_23 : decode cL_isSigned 23 = .ok (.ireturn, 1) := by decide +kernel
theorem dL_isSigned_24 : decode cL_isSigned 24 = .ok (.astore 4, 2) := by decide +kernel
theorem dL_isSigned_26 : decode cL_isSigned 26 = .ok (.iconst 2, 1) := by decide +kernel
theorem dL_isSigned_27 : decode cL_isSigned 27 = .ok (.ireturn, 1) := by decide +kernel
theorem dL_isSigned_28 : decode cL_isSigned 28 = .ok (.iconst 0, 1) := by decide +kernel
theorem dL_isSigned_29 : decode cL_isSigned 29 = .ok (.ireturn, 1) := by decide +kernel
theorem dL_isClosed_0 : decode cL_isClosed 0 = .ok (.aload_n 2, 1) := by decide +kernel
theorem dL_isClosed_1 : decode cL_isClosed 1 = .ok (.iconst 0, 1) := by decide +kernel
theorem dL_isClosed_2 : decode cL_isClosed 2 = .ok (.aload_n 0, 1) := by decide +kernel
theorem dL_isClosed_3 : decode cL_isClosed 3 = .ok (.iload_n 1, 1) := by decide +kernel
theorem dL_isClosed_4 : decode cL_isClosed 4 = .ok (.invokevirtual 72, 3) := by decide +kernel
theorem dL_isClosed_7 : decode cL_isClosed 7 = .ok (.ifCond .eq 7, 3) := by decide +kernel
theorem dL_isClosed_10 : decode cL_isClosed 10 = .ok (.lconst 1, 1) := by decide +kernel
theorem dL_isClosed_11 : decode cL_isClosed 11 = .ok (.goto 4, 3) := by decide +kernel
theorem dL_isClosed_14 : decode cL_isClosed 14 = .ok (.lconst 0, 1) := by decide +kernel
theorem dL_isClosed_15 : decode cL_isClosed 15 = .ok (.lastore, 1) := by decide +kernel
theorem dL_isClosed_16 : decode cL_isClosed 16 = .ok (.goto 6, 3) := by decide +kernel
theorem dL_isClosed_19 : decode cL_isClosed 19 = .ok (.astore_n 3, 1) := by decide +kernel
theorem dL_isClosed_20 : decode cL_isClosed 20 = .ok (.iconst 1, 1) := by decide +kernel
theorem dL_isClosed_21 : decode cL_isClosed 21 = .ok (.ireturn, 1) := by decide +kernel
theorem dL_isClosed_22 : decode cL_isClosed 22 = .ok (.iconst 0, 1) := by decide +kernel
theorem dL_isClosed_23 : decode cL_isClosed 23 = .ok (.ireturn, 1) := by decide +kernel
theorem dL_stands_0 : decode cL_stands 0 = .ok (.aload_n 3, 1) := by decide +kernel
theorem dL_stands_1 : decode cL_stands 1 = .ok (.iconst 0, 1) := by decide +kernel
theorem dL_stands_2 : decode cL_stands 2 = .ok (.aload_n 0, 1) := by decide +kernel
theorem dL_stands_3 : decode cL_stands 3 = .ok (.iload_n 1, 1) := by decide +kernel
theorem dL_stands_4 : decode cL_stands 4 = .ok (.iload_n 2, 1) := by decide +kernel
theorem dL_stands_5 : decode cL_stands 5 = .ok (.invokevirtual 76, 3) := by decide +kernel
theorem dL_stands_8 : decode cL_stands 8 = .ok (.i2l, 1) := by decide +kernel
theorem dL_stands_9 : decode cL_stands 9 = .ok (.lastore, 1) := by decide +kernel
theorem dL_stands_10 : decode cL_stands 10 = .ok (.goto 7, 3) := by decide +kernel
theorem dL_stands_13 : decode cL_stands 13 = .ok (.astore 4, 2) := by decide +kernel
theorem dL_stands_15 : decode cL_stands 15 = .ok (.iconst 1, 1) := by decide +kernel
theorem dL_stands_16 : decode cL_stands 16 = .ok (.ireturn, 1) := by decide +kernel
theorem dL_stands_17 : decode cL_stands 17 = .ok (.iconst 0, 1) := by decide +kernel
theorem dL_stands_18 : decode cL_stands 18 = .ok (.ireturn, 1) := by decide +kernel
theorem dL_thick_0 : decode cL_thick 0 = .ok (.aload_n 3, 1) := by decide +kernel
theorem dL_thick_1 : decode cL_thick 1 = .ok (.iconst 0, 1) := by decide +kernel
theorem dL_thick_2 : decode cL_thick 2 = .ok (.aload_n 0, 1) := by decide +kernel
theorem dL_thick_3 : decode cL_thick 3 = .ok (.iload_n 1, 1) := by decide +kernel
theorem dL_thick_4 : decode cL_thick 4 = .ok (.iload_n 2, 1) := by decide +kernel
theorem dL_thick_5 : decode cL_thick 5 = .ok (.invokevirtual 79, 3) := by decide +kernel
theorem dL_thick_8 : decode cL_thick 8 = .ok (.i2l, 1) := by decide +kernel
theorem dL_thick_9 : decode cL_thick 9 = .ok (.lastore, 1) := by decide +kernel
theorem dL_thick_10 : decode cL_thick 10 = .ok (.goto 11, 3) := by decide +kernel
theorem dL_thick_13 : decode cL_thick 13 = .ok (.astore 4, 2) := by decide +kernel
theorem dL_thick_15 : decode cL_thick 15 = .ok (.iconst 1, 1) := by decide +kernel
theorem dL_thick_16 : decode cL_thick 16 = .ok (.ireturn, 1) := by decide +kernel
theorem dL_thick_17 : decode cL_thick 17 = .ok (.astore 4, 2) := by decide +kernel
theorem dL_thick_19 : decode cL_thick 19 = .ok (.iconst 2, 1) := by decide +kernel
theorem dL_thick_20 : decode cL_thick 20 = .ok (.ireturn, 1) := by decide +kernel
theorem dL_thick_21 : decode cL_thick 21 = .ok (.iconst 0, 1) := by decide +kernel
theorem dL_thick_22 : decode cL_thick 22 = .ok (.ireturn, 1) := by decide +kernel
theorem dL_top_0 : decode cL_top 0 = .ok (.aload_n 3, 1) := by decide +kernel
theorem dL_top_1 : decode cL_top 1 = .ok (.iconst 0, 1) := by decide +kernel
theorem dL_top_2 : decode cL_top 2 = .ok (.aload_n 0, 1) := by decide +kernel
theorem dL_top_3 : decode cL_top 3 = .ok (.iload_n 1, 1) := by decide +kernel
theorem dL_top_4 : decode cL_top 4 = .ok (.iload_n 2, 1) := by decide +kernel
theorem dL_top_5 : decode cL_top 5 = .ok (.invokevirtual 82, 3) := by decide +kernel
theorem dL_top_8 : decode cL_top 8 = .ok (.i2l, 1) := by decide +kernel
theorem dL_top_9 : decode cL_top 9 = .ok (.lastore, 1) := by decide +kernel
theorem dL_top_10 : decode cL_top 10 = .ok (.goto 7, 3) := by decide +kernel
theorem dL_top_13 : decode cL_top 13 = .ok (.astore 4, 2) := by decide +kernel
theorem dL_top_15 : decode cL_top 15 = .ok (.iconst 1, 1) := by decide +kernel
theorem dL_top_16 : decode cL_top 16 = .ok (.ireturn, 1) := by decide +kernel
theorem dL_top_17 : decode cL_top 17 = .ok (.iconst 0, 1) := by decide +kernel
theorem dL_top_18 : decode cL_top 18 = .ok (.ireturn, 1) := by decide +kernel
theorem dL_folds_0 : decode cL_folds 0 = .ok (.aload_n 3, 1) := by decide +kernel
theorem dL_folds_1 : decode cL_folds 1 = .ok (.iconst 0, 1) := by decide +kernel
theorem dL_folds_2 : decode cL_folds 2 = .ok (.aload_n 0, 1) := by decide +kernel
theorem dL_folds_3 : decode cL_folds 3 = .ok (.iload_n 1, 1) := by decide +kernel
theorem dL_folds_4 : decode cL_folds 4 = .ok (.iload_n 2, 1) := by decide +kernel
theorem dL_folds_5 : decode cL_folds 5 = .ok (.invokevirtual 85, 3) := by decide +kernel
theorem dL_folds_8 : decode cL_folds 8 = .ok (.i2l, 1) := by decide +kernel
theorem dL_folds_9 : decode cL_folds 9 = .ok (.lastore, 1) := by decide +kernel
theorem dL_folds_10 : decode cL_folds 10 = .ok (.goto 7, 3) := by decide +kernel
theorem dL_folds_13 : decode cL_folds 13 = .ok (.astore 4, 2) := by decide +kernel
theorem dL_folds_15 : decode cL_folds 15 = .ok (.iconst 1, 1) := by decide +kernel
theorem dL_folds_16 : decode cL_folds 16 = .ok (.ireturn, 1) := by decide +kernel
theorem dL_folds_17 : decode cL_folds 17 = .ok (.iconst 0, 1) := by decide +kernel
theorem dL_folds_18 : decode cL_folds 18 = .ok (.ireturn, 1) := by decide +kernel
theorem dL_buttonAt_0 : decode cL_buttonAt 0 = .ok (.aload_n 3, 1) := by decide +kernel
theorem dL_buttonAt_1 : decode cL_buttonAt 1 = .ok (.iconst 0, 1) := by decide +kernel
theorem dL_buttonAt_2 : decode cL_buttonAt 2 = .ok (.aload_n 0, 1) := by decide +kernel
theorem dL_buttonAt_3 : decode cL_buttonAt 3 = .ok (.iload_n 1, 1) := by decide +kernel
theorem dL_buttonAt_4 : decode cL_buttonAt 4 = .ok (.iload_n 2, 1) := by decide +kernel
theorem dL_buttonAt_5 : decode cL_buttonAt 5 = .ok (.invokevirtual 89, 3) := by decide +kernel
theorem dL_buttonAt_8 : decode cL_buttonAt 8 = .ok (.i2l, 1) := by decide +kernel
theorem dL_buttonAt_9 : decode cL_buttonAt 9 = .ok (.lastore, 1) := by decide +kernel
theorem dL_buttonAt_10 : decode cL_buttonAt 10 = .ok (.goto 11, 3) := by decide +kernel
theorem dL_buttonAt_13 : decode cL_buttonAt 13 = .ok (.astore 4, 2) := by decide +kernel
theorem dL_buttonAt_15 : decode cL_buttonAt 15 = .ok (.iconst 1, 1) := by decide +kernel
theorem dL_buttonAt_16 : decode cL_buttonAt 16 = .ok (.ireturn, 1) := by decide +kernel
theorem dL_buttonAt_17 : decode cL_buttonAt 17 = .ok (.astore 4, 2) := by decide +kernel
theorem dL_buttonAt_19 : decode cL_buttonAt 19 = .ok (.iconst 2, 1) := by decide +kernel
theorem dL_buttonAt_20 : decode cL_buttonAt 20 = .ok (.ireturn, 1) := by decide +kernel
theorem dL_buttonAt_21 : decode cL_buttonAt 21 = .ok (.iconst 0, 1) := by decide +kernel
theorem dL_buttonAt_22 : decode cL_buttonAt 22 = .ok (.ireturn, 1) := by decide +kernel
theorem dL_body_0 : decode cL_body 0 = .ok (.aload_n 1, 1) := by decide +kernel
theorem dL_body_1 : decode cL_body 1 = .ok (.iconst 0, 1) := by decide +kernel
theorem dL_body_2 : decode cL_body 2 = .ok (.aload_n 0, 1) := by decide +kernel
theorem dL_body_3 : decode cL_body 3 = .ok (.invokevirtual 92, 3) := by decide +kernel
theorem dL_body_6 : decode cL_body 6 = .ok (.i2l, 1) := by decide +kernel
theorem dL_body_7 : decode cL_body 7 = .ok (.lastore, 1) := by decide +kernel
theorem dL_body_8 : decode cL_body 8 = .ok (.goto 6, 3) := by decide +kernel
theorem dL_body_11 : decode cL_body 11 = .ok (.astore_n 2, 1) := by decide +kernel
theorem dL_body_12 : decode cL_body 12 = .ok (.iconst 1, 1) := by decide +kernel
theorem dL_body_13 : decode cL_body 13 = .ok (.ireturn, 1) := by decide +kernel
theorem dL_body_14 : decode cL_body 14 = .ok (.iconst 0, 1) := by decide +kernel
theorem dL_body_15 : decode cL_body 15 = .ok (.ireturn, 1) := by decide +kernel
theorem dL_mass_0 : decode cL_mass 0 = .ok (.aload 4, 2) := by decide +kernel
theorem dL_mass_2 : decode cL_mass 2 = .ok (.iconst 0, 1) := by decide +kernel
theorem dL_mass_3 : decode cL_mass 3 = .ok (.aload_n 0, 1) := by decide +kernel
theorem dL_mass_4 : decode cL_mass 4 = .ok (.iload_n 1, 1) := by decide +kernel
theorem dL_mass_5 : decode cL_mass 5 = .ok (.iload_n 2, 1) := by decide +kernel
theorem dL_mass_6 : decode cL_mass 6 = .ok (.iload_n 3, 1) := by decide +kernel
theorem dL_mass_7 : decode cL_mass 7 = .ok (.invokevirtual 96, 3) := by decide +kernel
theorem dL_mass_10 : decode cL_mass 10 = .ok (.i2l, 1) := by decide +kernel
theorem dL_mass_11 : decode cL_mass 11 = .ok (.lastore, 1) := by decide +kernel
theorem dL_mass_12 : decode cL_mass 12 = .ok (.goto 11, 3) := by decide +kernel
theorem dL_mass_15 : decode cL_mass 15 = .ok (.astore 5, 2) := by decide +kernel
theorem dL_mass_17 : decode cL_mass 17 = .ok (.iconst 1, 1) := by decide +kernel
theorem dL_mass_18 : decode cL_mass 18 = .ok (.ireturn, 1) := by decide +kernel
theorem dL_mass_19 : decode cL_mass 19 = .ok (.astore 5, 2) := by decide +kernel
theorem dL_mass_21 : decode cL_mass 21 = .ok (.iconst 2, 1) := by decide +kernel
theorem dL_mass_22 : decode cL_mass 22 = .ok (.ireturn, 1) := by decide +kernel
theorem dL_mass_23 : decode cL_mass 23 = .ok (.iconst 0, 1) := by decide +kernel
theorem dL_mass_24 : decode cL_mass 24 = .ok (.ireturn, 1) := by decide +kernel
theorem dL_sinks_0 : decode cL_sinks 0 = .ok (.aload 4, 2) := by decide +kernel
theorem dL_sinks_2 : decode cL_sinks 2 = .ok (.iconst 0, 1) := by decide +kernel
theorem dL_sinks_3 : decode cL_sinks 3 = .ok (.aload_n 0, 1) := by decide +kernel
theorem dL_sinks_4 : decode cL_sinks 4 = .ok (.iload_n 1, 1) := by decide +kernel
theorem dL_sinks_5 : decode cL_sinks 5 = .ok (.iload_n 2, 1) := by decide +kernel
theorem dL_sinks_6 : decode cL_sinks 6 = .ok (.iload_n 3, 1) := by decide +kernel
theorem dL_sinks_7 : decode cL_sinks 7 = .ok (.invokevirtual 99, 3) := by decide +kernel
theorem dL_sinks_10 : decode cL_sinks 10 = .ok (.i2l, 1) := by decide +kernel
theorem dL_sinks_11 : decode cL_sinks 11 = .ok (.lastore, 1) := by decide +kernel
theorem dL_sinks_12 : decode cL_sinks 12 = .ok (.goto 11, 3) := by decide +kernel
theorem dL_sinks_15 : decode cL_sinks 15 = .ok (.astore 5, 2) := by decide +kernel
theorem dL_sinks_17 : decode cL_sinks 17 = .ok (.iconst 1, 1) := by decide +kernel
theorem dL_sinks_18 : decode cL_sinks 18 = .ok (.ireturn, 1) := by decide +kernel
theorem dL_sinks_19 : decode cL_sinks 19 = .ok (.astore 5, 2) := by decide +kernel
theorem dL_sinks_21 : decode cL_sinks 21 = .ok (.iconst 2, 1) := by decide +kernel
theorem dL_sinks_22 : decode cL_sinks 22 = .ok (.ireturn, 1) := by decide +kernel
theorem dL_sinks_23 : decode cL_sinks 23 = .ok (.iconst 0, 1) := by decide +kernel
theorem dL_sinks_24 : decode cL_sinks 24 = .ok (.ireturn, 1) := by decide +kernel
theorem dL_pressure_0 : decode cL_pressure 0 = .ok (.aload 4, 2) := by decide +kernel
theorem dL_pressure_2 : decode cL_pressure 2 = .ok (.iconst 0, 1) := by decide +kernel
theorem dL_pressure_3 : decode cL_pressure 3 = .ok (.aload_n 0, 1) := by decide +kernel
theorem dL_pressure_4 : decode cL_pressure 4 = .ok (.iload_n 1, 1) := by decide +kernel
theorem dL_pressure_5 : decode cL_pressure 5 = .ok (.iload_n 2, 1) := by decide +kernel
theorem dL_pressure_6 : decode cL_pressure 6 = .ok (.iload_n 3, 1) := by decide +kernel
theorem dL_pressure_7 : decode cL_pressure 7 = .ok (.invokevirtual 102, 3) := by decide +kernel
theorem dL_pressure_10 : decode cL_pressure 10 = .ok (.i2l, 1) := by decide +kernel
theorem dL_pressure_11 : decode cL_pressure 11 = .ok (.lastore, 1) := by decide +kernel
theorem dL_pressure_12 : decode cL_pressure 12 = .ok (.goto 11, 3) := by decide +kernel
theorem dL_pressure_15 : decode cL_pressure 15 = .ok (.astore 5, 2) := by decide +kernel
theorem dL_pressure_17 : decode cL_pressure 17 = .ok (.iconst 1, 1) := by decide +kernel
theorem dL_pressure_18 : decode cL_pressure 18 = .ok (.ireturn, 1) := by decide +kernel
theorem dL_pressure_19 : decode cL_pressure 19 = .ok (.astore 5, 2) := by decide +kernel
theorem dL_pressure_21 : decode cL_pressure 21 = .ok (.iconst 2, 1) := by decide +kernel
theorem dL_pressure_22 : decode cL_pressure 22 = .ok (.ireturn, 1) := by decide +kernel
theorem dL_pressure_23 : decode cL_pressure 23 = .ok (.iconst 0, 1) := by decide +kernel
theorem dL_pressure_24 : decode cL_pressure 24 = .ok (.ireturn, 1) := by decide +kernel
theorem dL_comfort_0 : decode cL_comfort 0 = .ok (.aload_n 3, 1) := by decide +kernel
theorem dL_comfort_1 : decode cL_comfort 1 = .ok (.iconst 0, 1) := by decide +kernel
theorem dL_comfort_2 : decode cL_comfort 2 = .ok (.aload_n 0, 1) := by decide +kernel
theorem dL_comfort_3 : decode cL_comfort 3 = .ok (.iload_n 1, 1) := by decide +kernel
theorem dL_comfort_4 : decode cL_comfort 4 = .ok (.iload_n 2, 1) := by decide +kernel
theorem dL_comfort_5 : decode cL_comfort 5 = .ok (.invokevirtual 105, 3) := by decide +kernel
theorem dL_comfort_8 : decode cL_comfort 8 = .ok (.i2l, 1) := by decide +kernel
theorem dL_comfort_9 : decode cL_comfort 9 = .ok (.lastore, 1) := by decide +kernel
theorem dL_comfort_10 : decode cL_comfort 10 = .ok (.goto 11, 3) := by decide +kernel
theorem dL_comfort_13 : decode cL_comfort 13 = .ok (.astore 4, 2) := by decide +kernel
theorem dL_comfort_15 : decode cL_comfort 15 = .ok (.iconst 1, 1) := by decide +kernel
theorem dL_comfort_16 : decode cL_comfort 16 = .ok (.ireturn, 1) := by decide +kernel
theorem dL_comfort_17 : decode cL_comfort 17 = .ok (.astore 4, 2) := by decide +kernel
theorem dL_comfort_19 : decode cL_comfort 19 = .ok (.iconst 2, 1) := by decide +kernel
theorem dL_comfort_20 : decode cL_comfort 20 = .ok (.ireturn, 1) := by decide +kernel
theorem dL_comfort_21 : decode cL_comfort 21 = .ok (.iconst 0, 1) := by decide +kernel
theorem dL_comfort_22 : decode cL_comfort 22 = .ok (.ireturn, 1) := by decide +kernel
theorem dL_fit_0 : decode cL_fit 0 = .ok (.aload 4, 2) := by decide +kernel
theorem dL_fit_2 : decode cL_fit 2 = .ok (.iconst 0, 1) := by decide +kernel
theorem dL_fit_3 : decode cL_fit 3 = .ok (.aload_n 0, 1) := by decide +kernel
theorem dL_fit_4 : decode cL_fit 4 = .ok (.iload_n 1, 1) := by decide +kernel
theorem dL_fit_5 : decode cL_fit 5 = .ok (.iload_n 2, 1) := by decide +kernel
theorem dL_fit_6 : decode cL_fit 6 = .ok (.iload_n 3, 1) := by decide +kernel
theorem dL_fit_7 : decode cL_fit 7 = .ok (.invokevirtual 108, 3) := by decide +kernel
theorem dL_fit_10 : decode cL_fit 10 = .ok (.i2l, 1) := by decide +kernel
theorem dL_fit_11 : decode cL_fit 11 = .ok (.lastore, 1) := by decide +kernel
theorem dL_fit_12 : decode cL_fit 12 = .ok (.goto 11, 3) := by decide +kernel
theorem dL_fit_15 : decode cL_fit 15 = .ok (.astore 5, 2) := by decide +kernel
theorem dL_fit_17 : decode cL_fit 17 = .ok (.iconst 1, 1) := by decide +kernel
theorem dL_fit_18 : decode cL_fit 18 = .ok (.ireturn, 1) := by decide +kernel
theorem dL_fit_19 : decode cL_fit 19 = .ok (.astore 5, 2) := by decide +kernel
theorem dL_fit_21 : decode cL_fit 21 = .ok (.iconst 2, 1) := by decide +kernel
theorem dL_fit_22 : decode cL_fit 22 = .ok (.ireturn, 1) := by decide +kernel
theorem dL_fit_23 : decode cL_fit 23 = .ok (.iconst 0, 1) := by decide +kernel
theorem dL_fit_24 : decode cL_fit 24 = .ok (.ireturn, 1) := by decide +kernel
theorem dL_cloth_0 : decode cL_cloth 0 = .ok (.aload_n 3, 1) := by decide +kernel
theorem dL_cloth_1 : decode cL_cloth 1 = .ok (.iconst 0, 1) := by decide +kernel
theorem dL_cloth_2 : decode cL_cloth 2 = .ok (.aload_n 0, 1) := by decide +kernel
theorem dL_cloth_3 : decode cL_cloth 3 = .ok (.iload_n 1, 1) := by decide +kernel
theorem dL_cloth_4 : decode cL_cloth 4 = .ok (.iload_n 2, 1) := by decide +kernel
theorem dL_cloth_5 : decode cL_cloth 5 = .ok (.invokevirtual 111, 3) := by decide +kernel
theorem dL_cloth_8 : decode cL_cloth 8 = .ok (.i2l, 1) := by decide +kernel
theorem dL_cloth_9 : decode cL_cloth 9 = .ok (.lastore, 1) := by decide +kernel
theorem dL_cloth_10 : decode cL_cloth 10 = .ok (.goto 11, 3) := by decide +kernel
theorem dL_cloth_13 : decode cL_cloth 13 = .ok (.astore 4, 2) := by decide +kernel
theorem dL_cloth_15 : decode cL_cloth 15 = .ok (.iconst 1, 1) := by decide +kernel
theorem dL_cloth_16 : decode cL_cloth 16 = .ok (.ireturn, 1) := by decide +kernel
theorem dL_cloth_17 : decode cL_cloth 17 = .ok (.astore 4, 2) := by decide +kernel
theorem dL_cloth_19 : decode cL_cloth 19 = .ok (.iconst 2, 1) := by decide +kernel
theorem dL_cloth_20 : decode cL_cloth 20 = .ok (.ireturn, 1) := by decide +kernel
theorem dL_cloth_21 : decode cL_cloth 21 = .ok (.iconst 0, 1) := by decide +kernel
theorem dL_cloth_22 : decode cL_cloth 22 = .ok (.ireturn, 1) := by decide +kernel
theorem dL_flaw_0 : decode cL_flaw 0 = .ok (.aload_n 3, 1) := by decide +kernel
theorem dL_flaw_1 : decode cL_flaw 1 = .ok (.iconst 0, 1) := by decide +kernel
theorem dL_flaw_2 : decode cL_flaw 2 = .ok (.aload_n 0, 1) := by decide +kernel
theorem dL_flaw_3 : decode cL_flaw 3 = .ok (.iload_n 1, 1) := by decide +kernel
theorem dL_flaw_4 : decode cL_flaw 4 = .ok (.iload_n 2, 1) := by decide +kernel
theorem dL_flaw_5 : decode cL_flaw 5 = .ok (.invokevirtual 114, 3) := by decide +kernel
theorem dL_flaw_8 : decode cL_flaw 8 = .ok (.i2l, 1) := by decide +kernel
theorem dL_flaw_9 : decode cL_flaw 9 = .ok (.lastore, 1) := by decide +kernel
theorem dL_flaw_10 : decode cL_flaw 10 = .ok (.goto 15, 3) := by decide +kernel
theorem dL_flaw_13 : decode cL_flaw 13 = .ok (.astore 4, 2) := by decide +kernel
theorem dL_flaw_15 : decode cL_flaw 15 = .ok (.iconst 1, 1) := by decide +kernel
theorem dL_flaw_16 : decode cL_flaw 16 = .ok (.ireturn, 1) := by decide +kernel
theorem dL_flaw_17 : decode cL_flaw 17 = .ok (.astore 4, 2) := by decide +kernel
theorem dL_flaw_19 : decode cL_flaw 19 = .ok (.iconst 2, 1) := by decide +kernel
theorem dL_flaw_20 : decode cL_flaw 20 = .ok (.ireturn, 1) := by decide +kernel
theorem dL_flaw_21 : decode cL_flaw 21 = .ok (.astore 4, 2) := by decide +kernel
theorem dL_flaw_23 : decode cL_flaw 23 = .ok (.iconst 3, 1) := by decide +kernel
theorem dL_flaw_24 : decode cL_flaw 24 = .ok (.ireturn, 1) := by decide +kernel
theorem dL_flaw_25 : decode cL_flaw 25 = .ok (.iconst 0, 1) := by decide +kernel
theorem dL_flaw_26 : decode cL_flaw 26 = .ok (.ireturn, 1) := by decide +kernel
theorem dL_left_0 : decode cL_left 0 = .ok (.aload_n 2, 1) := by decide +kernel
theorem dL_left_1 : decode cL_left 1 = .ok (.iconst 0, 1) := by decide +kernel
theorem dL_left_2 : decode cL_left 2 = .ok (.aload_n 0, 1) := by decide +kernel
theorem dL_left_3 : decode cL_left 3 = .ok (.iload_n 1, 1) := by decide +kernel
theorem dL_left_4 : decode cL_left 4 = .ok (.invokevirtual 117, 3) := by decide +kernel
theorem dL_left_7 : decode cL_left 7 = .ok (.i2l, 1) := by decide +kernel
theorem dL_left_8 : decode cL_left 8 = .ok (.lastore, 1) := by decide +kernel
theorem dL_left_9 : decode cL_left 9 = .ok (.goto 6, 3) := by decide +kernel
theorem dL_left_12 : decode cL_left 12 = .ok (.astore_n 3, 1) := by decide +kernel
theorem dL_left_13 : decode cL_left 13 = .ok (.iconst 1, 1) := by decide +kernel
theorem dL_left_14 : decode cL_left 14 = .ok (.ireturn, 1) := by decide +kernel
theorem dL_left_15 : decode cL_left 15 = .ok (.iconst 0, 1) := by decide +kernel
theorem dL_left_16 : decode cL_left 16 = .ok (.ireturn, 1) := by decide +kernel
theorem dL_panel_0 : decode cL_panel 0 = .ok (.aload_n 3, 1) := by decide +kernel
theorem dL_panel_1 : decode cL_panel 1 = .ok (.iconst 0, 1) := by decide +kernel
theorem dL_panel_2 : decode cL_panel 2 = .ok (.aload_n 0, 1) := by decide +kernel
theorem dL_panel_3 : decode cL_panel 3 = .ok (.iload_n 1, 1) := by decide +kernel
theorem dL_panel_4 : decode cL_panel 4 = .ok (.iload_n 2, 1) := by decide +kernel
theorem dL_panel_5 : decode cL_panel 5 = .ok (.invokevirtual 120, 3) := by decide +kernel
theorem dL_panel_8 : decode cL_panel 8 = .ok (.i2l, 1) := by decide +kernel
theorem dL_panel_9 : decode cL_panel 9 = .ok (.lastore, 1) := by decide +kernel
theorem dL_panel_10 : decode cL_panel 10 = .ok (.goto 11, 3) := by decide +kernel
theorem dL_panel_13 : decode cL_panel 13 = .ok (.astore 4, 2) := by decide +kernel
theorem dL_panel_15 : decode cL_panel 15 = .ok (.iconst 1, 1) := by decide +kernel
theorem dL_panel_16 : decode cL_panel 16 = .ok (.ireturn, 1) := by decide +kernel
theorem dL_panel_17 : decode cL_panel 17 = .ok (.astore 4, 2) := by decide +kernel
theorem dL_panel_19 : decode cL_panel 19 = .ok (.iconst 2, 1) := by decide +kernel
theorem dL_panel_20 : decode cL_panel 20 = .ok (.ireturn, 1) := by decide +kernel
theorem dL_panel_21 : decode cL_panel 21 = .ok (.iconst 0, 1) := by decide +kernel
theorem dL_panel_22 : decode cL_panel 22 = .ok (.ireturn, 1) := by decide +kernel
theorem dL_use_0 : decode cL_use 0 = .ok (.aload_n 3, 1) := by decide +kernel
theorem dL_use_1 : decode cL_use 1 = .ok (.iconst 0, 1) := by decide +kernel
theorem dL_use_2 : decode cL_use 2 = .ok (.aload_n 0, 1) := by decide +kernel
theorem dL_use_3 : decode cL_use 3 = .ok (.iload_n 1, 1) := by decide +kernel
theorem dL_use_4 : decode cL_use 4 = .ok (.iload_n 2, 1) := by decide +kernel
theorem dL_use_5 : decode cL_use 5 = .ok (.invokevirtual 123, 3) := by decide +kernel
theorem dL_use_8 : decode cL_use 8 = .ok (.i2l, 1) := by decide +kernel
theorem dL_use_9 : decode cL_use 9 = .ok (.lastore, 1) := by decide +kernel
theorem dL_use_10 : decode cL_use 10 = .ok (.goto 15, 3) := by decide +kernel
theorem dL_use_13 : decode cL_use 13 = .ok (.astore 4, 2) := by decide +kernel
theorem dL_use_15 : decode cL_use 15 = .ok (.iconst 1, 1) := by decide +kernel
theorem dL_use_16 : decode cL_use 16 = .ok (.ireturn, 1) := by decide +kernel
theorem dL_use_17 : decode cL_use 17 = .ok (.astore 4, 2) := by decide +kernel
theorem dL_use_19 : decode cL_use 19 = .ok (.iconst 2, 1) := by decide +kernel
theorem dL_use_20 : decode cL_use 20 = .ok (.ireturn, 1) := by decide +kernel
theorem dL_use_21 : decode cL_use 21 = .ok (.astore 4, 2) := by decide +kernel
theorem dL_use_23 : decode cL_use 23 = .ok (.iconst 3, 1) := by decide +kernel
theorem dL_use_24 : decode cL_use 24 = .ok (.ireturn, 1) := by decide +kernel
theorem dL_use_25 : decode cL_use 25 = .ok (.iconst 0, 1) := by decide +kernel
theorem dL_use_26 : decode cL_use 26 = .ok (.ireturn, 1) := by decide +kernel
theorem dL_pound_0 : decode cL_pound 0 = .ok (.aload_n 3, 1) := by decide +kernel
theorem dL_pound_1 : decode cL_pound 1 = .ok (.iconst 0, 1) := by decide +kernel
theorem dL_pound_2 : decode cL_pound 2 = .ok (.aload_n 0, 1) := by decide +kernel
theorem dL_pound_3 : decode cL_pound 3 = .ok (.iload_n 1, 1) := by decide +kernel
theorem dL_pound_4 : decode cL_pound 4 = .ok (.iload_n 2, 1) := by decide +kernel
theorem dL_pound_5 : decode cL_pound 5 = .ok (.invokevirtual 126, 3) := by decide +kernel
theorem dL_pound_8 : decode cL_pound 8 = .ok (.i2l, 1) := by decide +kernel
theorem dL_pound_9 : decode cL_pound 9 = .ok (.lastore, 1) := by decide +kernel
theorem dL_pound_10 : decode cL_pound 10 = .ok (.goto 15, 3) := by decide +kernel
theorem dL_pound_13 : decode cL_pound 13 = .ok (.astore 4, 2) := by decide +kernel
theorem dL_pound_15 : decode cL_pound 15 = .ok (.iconst 1, 1) := by decide +kernel
theorem dL_pound_16 : decode cL_pound 16 = .ok (.ireturn, 1) := by decide +kernel
theorem dL_pound_17 : decode cL_pound 17 = .ok (.astore 4, 2) := by decide +kernel
theorem dL_pound_19 : decode cL_pound 19 = .ok (.iconst 2, 1) := by decide +kernel
theorem dL_pound_20 : decode cL_pound 20 = .ok (.ireturn, 1) := by decide +kernel
theorem dL_pound_21 : decode cL_pound 21 = .ok (.astore 4, 2) := by decide +kernel
theorem dL_pound_23 : decode cL_pound 23 = .ok (.iconst 3, 1) := by decide +kernel
theorem dL_pound_24 : decode cL_pound 24 = .ok (.ireturn, 1) := by decide +kernel
theorem dL_pound_25 : decode cL_pound 25 = .ok (.iconst 0, 1) := by decide +kernel
theorem dL_pound_26 : decode cL_pound 26 = .ok (.ireturn, 1) := by decide +kernel
theorem dL_hours_0 : decode cL_hours 0 = .ok (.aload_n 2, 1) := by decide +kernel
theorem dL_hours_1 : decode cL_hours 1 = .ok (.iconst 0, 1) := by decide +kernel
theorem dL_hours_2 : decode cL_hours 2 = .ok (.aload_n 0, 1) := by decide +kernel
theorem dL_hours_3 : decode cL_hours 3 = .ok (.iload_n 1, 1) := by decide +kernel
theorem dL_hours_4 : decode cL_hours 4 = .ok (.invokevirtual 129, 3) := by decide +kernel
theorem dL_hours_7 : decode cL_hours 7 = .ok (.i2l, 1) := by decide +kernel
theorem dL_hours_8 : decode cL_hours 8 = .ok (.lastore, 1) := by decide +kernel
theorem dL_hours_9 : decode cL_hours 9 = .ok (.goto 9, 3) := by decide +kernel
theorem dL_hours_12 : decode cL_hours 12 = .ok (.astore_n 3, 1) := by decide +kernel
theorem dL_hours_13 : decode cL_hours 13 = .ok (.iconst 1, 1) := by decide +kernel
theorem dL_hours_14 : decode cL_hours 14 = .ok (.ireturn, 1) := by decide +kernel
theorem dL_hours_15 : decode cL_hours 15 = .ok (.astore_n 3, 1) := by decide +kernel
theorem dL_hours_16 : decode cL_hours 16 = .ok (.iconst 2, 1) := by decide +kernel
theorem dL_hours_17 : decode cL_hours 17 = .ok (.ireturn, 1) := by decide +kernel
theorem dL_hours_18 : decode cL_hours 18 = .ok (.iconst 0, 1) := by decide +kernel
theorem dL_hours_19 : decode cL_hours 19 = .ok (.ireturn, 1) := by decide +kernel
theorem dL_land_0 : decode cL_land 0 = .ok (.aload 4, 2) := by decide +kernel
theorem dL_land_2 : decode cL_land 2 = .ok (.iconst 0, 1) := by decide +kernel
theorem dL_land_3 : decode cL_land 3 = .ok (.aload_n 0, 1) := by decide +kernel
theorem dL_land_4 : decode cL_land 4 = .ok (.iload_n 1, 1) := by decide +kernel
theorem dL_land_5 : decode cL_land 5 = .ok (.iload_n 2, 1) := by decide +kernel
theorem dL_land_6 : decode cL_land 6 = .ok (.iload_n 3, 1) := by decide +kernel
theorem dL_land_7 : decode cL_land 7 = .ok (.invokevirtual 132, 3) := by decide +kernel
theorem dL_land_10 : decode cL_land 10 = .ok (.i2l, 1) := by decide +kernel
theorem dL_land_11 : decode cL_land 11 = .ok (.lastore, 1) := by decide +kernel
theorem dL_land_12 : decode cL_land 12 = .ok (.goto 11, 3) := by decide +kernel
theorem dL_land_15 : decode cL_land 15 = .ok (.astore 5, 2) := by decide +kernel
theorem dL_land_17 : decode cL_land 17 = .ok (.iconst 1, 1) := by decide +kernel
theorem dL_land_18 : decode cL_land 18 = .ok (.ireturn, 1) := by decide +kernel
theorem dL_land_19 : decode cL_land 19 = .ok (.astore 5, 2) := by decide +kernel
theorem dL_land_21 : decode cL_land 21 = .ok (.iconst 2, 1) := by decide +kernel
theorem dL_land_22 : decode cL_land 22 = .ok (.ireturn, 1) := by decide +kernel
theorem dL_land_23 : decode cL_land 23 = .ok (.iconst 0, 1) := by decide +kernel
theorem dL_land_24 : decode cL_land 24 = .ok (.ireturn, 1) := by decide +kernel
theorem dL_burns_0 : decode cL_burns 0 = .ok (.aload_n 3, 1) := by decide +kernel
theorem dL_burns_1 : decode cL_burns 1 = .ok (.iconst 0, 1) := by decide +kernel
theorem dL_burns_2 : decode cL_burns 2 = .ok (.aload_n 0, 1) := by decide +kernel
theorem dL_burns_3 : decode cL_burns 3 = .ok (.iload_n 1, 1) := by decide +kernel
theorem dL_burns_4 : decode cL_burns 4 = .ok (.iload_n 2, 1) := by decide +kernel
theorem dL_burns_5 : decode cL_burns 5 = .ok (.invokevirtual 136, 3) := by decide +kernel
theorem dL_burns_8 : decode cL_burns 8 = .ok (.ifCond .eq 7, 3) := by decide +kernel
theorem dL_burns_11 : decode cL_burns 11 = .ok (.lconst 1, 1) := by decide +kernel
theorem dL_burns_12 : decode cL_burns 12 = .ok (.goto 4, 3) := by decide +kernel
theorem dL_burns_15 : decode cL_burns 15 = .ok (.lconst 0, 1) := by decide +kernel
theorem dL_burns_16 : decode cL_burns 16 = .ok (.lastore, 1) := by decide +kernel
theorem dL_burns_17 : decode cL_burns 17 = .ok (.goto 7, 3) := by decide +kernel
theorem dL_burns_20 : decode cL_burns 20 = .ok (.astore 4, 2) := by decide +kernel
theorem dL_burns_22 : decode cL_burns 22 = .ok (.iconst 1, 1) := by decide +kernel
theorem dL_burns_23 : decode cL_burns 23 = .ok (.ireturn, 1) := by decide +kernel
theorem dL_burns_24 : decode cL_burns 24 = .ok (.iconst 0, 1) := by decide +kernel
theorem dL_burns_25 : decode cL_burns 25 = .ok (.ireturn, 1) := by decide +kernel
theorem dL_tack_0 : decode cL_tack 0 = .ok (.aload 4, 2) := by decide +kernel
theorem dL_tack_2 : decode cL_tack 2 = .ok (.iconst 0, 1) := by decide +kernel
theorem dL_tack_3 : decode cL_tack 3 = .ok (.aload_n 0, 1) := by decide +kernel
theorem dL_tack_4 : decode cL_tack 4 = .ok (.iload_n 1, 1) := by decide +kernel
theorem dL_tack_5 : decode cL_tack 5 = .ok (.iload_n 2, 1) := by decide +kernel
theorem dL_tack_6 : decode cL_tack 6 = .ok (.iload_n 3, 1) := by decide +kernel
theorem dL_tack_7 : decode cL_tack 7 = .ok (.invokevirtual 139, 3) := by decide +kernel
theorem dL_tack_10 : decode cL_tack 10 = .ok (.i2l, 1) := by decide +kernel
theorem dL_tack_11 : decode cL_tack 11 = .ok (.lastore, 1) := by decide +kernel
theorem dL_tack_12 : decode cL_tack 12 = .ok (.goto 15, 3) := by decide +kernel
theorem dL_tack_15 : decode cL_tack 15 = .ok (.astore 5, 2) := by decide +kernel
theorem dL_tack_17 : decode cL_tack 17 = .ok (.iconst 1, 1) := by decide +kernel
theorem dL_tack_18 : decode cL_tack 18 = .ok (.ireturn, 1) := by decide +kernel
theorem dL_tack_19 : decode cL_tack 19 = .ok (.astore 5, 2) := by decide +kernel
theorem dL_tack_21 : decode cL_tack 21 = .ok (.iconst 2, 1) := by decide +kernel
theorem dL_tack_22 : decode cL_tack 22 = .ok (.ireturn, 1) := by decide +kernel
theorem dL_tack_23 : decode cL_tack 23 = .ok (.astore 5, 2) := by decide +kernel
theorem dL_tack_25 : decode cL_tack 25 = .ok (.iconst 3, 1) := by decide +kernel
theorem dL_tack_26 : decode cL_tack 26 = .ok (.ireturn, 1) := by decide +kernel
theorem dL_tack_27 : decode cL_tack 27 = .ok (.iconst 0, 1) := by decide +kernel
theorem dL_tack_28 : decode cL_tack 28 = .ok (.ireturn, 1) := by decide +kernel
theorem dL_quarrels_0 : decode cL_quarrels 0 = .ok (.aload_n 2, 1) := by decide +kernel
theorem dL_quarrels_1 : decode cL_quarrels 1 = .ok (.iconst 0, 1) := by decide +kernel
theorem dL_quarrels_2 : decode cL_quarrels 2 = .ok (.aload_n 0, 1) := by decide +kernel
theorem dL_quarrels_3 : decode cL_quarrels 3 = .ok (.iload_n 1, 1) := by decide +kernel
theorem dL_quarrels_4 : decode cL_quarrels 4 = .ok (.invokevirtual 142, 3) := by decide +kernel
theorem dL_quarrels_7 : decode cL_quarrels 7 = .ok (.i2l, 1) := by decide +kernel
theorem dL_quarrels_8 : decode cL_quarrels 8 = .ok (.lastore, 1) := by decide +kernel
theorem dL_quarrels_9 : decode cL_quarrels 9 = .ok (.goto 6, 3) := by decide +kernel
theorem dL_quarrels_12 : decode cL_quarrels 12 = .ok (.astore_n 3, 1) := by decide +kernel
theorem dL_quarrels_13 : decode cL_quarrels 13 = .ok (.iconst 1, 1) := by decide +kernel
theorem dL_quarrels_14 : decode cL_quarrels 14 = .ok (.ireturn, 1) := by decide +kernel
theorem dL_quarrels_15 : decode cL_quarrels 15 = .ok (.iconst 0, 1) := by decide +kernel
theorem dL_quarrels_16 : decode cL_quarrels 16 = .ok (.ireturn, 1) := by decide +kernel
theorem dL_promise_0 : decode cL_promise 0 = .ok (.aload_n 3, 1) := by decide +kernel
theorem dL_promise_1 : decode cL_promise 1 = .ok (.iconst 0, 1) := by decide +kernel
theorem dL_promise_2 : decode cL_promise 2 = .ok (.aload_n 0, 1) := by decide +kernel
theorem dL_promise_3 : decode cL_promise 3 = .ok (.iload_n 1, 1) := by decide +kernel
theorem dL_promise_4 : decode cL_promise 4 = .ok (.iload_n 2, 1) := by decide +kernel
theorem dL_promise_5 : decode cL_promise 5 = .ok (.invokevirtual 145, 3) := by decide +kernel
theorem dL_promise_8 : decode cL_promise 8 = .ok (.i2l, 1) := by decide +kernel
theorem dL_promise_9 : decode cL_promise 9 = .ok (.lastore, 1) := by decide +kernel
theorem dL_promise_10 : decode cL_promise 10 = .ok (.goto 11, 3) := by decide +kernel
theorem dL_promise_13 : decode cL_promise 13 = .ok (.astore 4, 2) := by decide +kernel
theorem dL_promise_15 : decode cL_promise 15 = .ok (.iconst 1, 1) := by decide +kernel
theorem dL_promise_16 : decode cL_promise 16 = .ok (.ireturn, 1) := by decide +kernel
theorem dL_promise_17 : decode cL_promise 17 = .ok (.astore 4, 2) := by decide +kernel
theorem dL_promise_19 : decode cL_promise 19 = .ok (.iconst 2, 1) := by decide +kernel
theorem dL_promise_20 : decode cL_promise 20 = .ok (.ireturn, 1) := by decide +kernel
theorem dL_promise_21 : decode cL_promise 21 = .ok (.iconst 0, 1) := by decide +kernel
theorem dL_promise_22 : decode cL_promise 22 = .ok (.ireturn, 1) := by decide +kernel
theorem dL_holds_0 : decode cL_holds 0 = .ok (.aload_n 2, 1) := by decide +kernel
theorem dL_holds_1 : decode cL_holds 1 = .ok (.iconst 0, 1) := by decide +kernel
theorem dL_holds_2 : decode cL_holds 2 = .ok (.aload_n 0, 1) := by decide +kernel
theorem dL_holds_3 : decode cL_holds 3 = .ok (.iload_n 1, 1) := by decide +kernel
theorem dL_holds_4 : decode cL_holds 4 = .ok (.invokevirtual 148, 3) := by decide +kernel
theorem dL_holds_7 : decode cL_holds 7 = .ok (.ifCond .eq 7, 3) := by decide +kernel
theorem dL_holds_10 : decode cL_holds 10 = .ok (.lconst 1, 1) := by decide +kernel
theorem dL_holds_11 : decode cL_holds 11 = .ok (.goto 4, 3) := by decide +kernel
theorem dL_holds_14 : decode cL_holds 14 = .ok (.lconst 0, 1) := by decide +kernel
theorem dL_holds_15 : decode cL_holds 15 = .ok (.lastore, 1) := by decide +kernel
theorem dL_holds_16 : decode cL_holds 16 = .ok (.goto 9, 3) := by decide +kernel
theorem dL_holds_19 : decode cL_holds 19 = .ok (.astore_n 3, 1) := by decide +kernel
theorem dL_holds_20 : decode cL_holds 20 = .ok (.iconst 1, 1) := by decide +kernel
theorem dL_holds_21 : decode cL_holds 21 = .ok (.ireturn, 1) := by decide +kernel
theorem dL_holds_22 : decode cL_holds 22 = .ok (.astore_n 3, 1) := by decide +kernel
theorem dL_holds_23 : decode cL_holds 23 = .ok (.iconst 2, 1) := by decide +kernel
theorem dL_holds_24 : decode cL_holds 24 = .ok (.ireturn, 1) := by decide +kernel
theorem dL_holds_25 : decode cL_holds 25 = .ok (.iconst 0, 1) := by decide +kernel
theorem dL_holds_26 : decode cL_holds 26 = .ok (.ireturn, 1) := by decide +kernel
theorem dL_quote_0 : decode cL_quote 0 = .ok (.aload_n 2, 1) := by decide +kernel
theorem dL_quote_1 : decode cL_quote 1 = .ok (.iconst 0, 1) := by decide +kernel
theorem dL_quote_2 : decode cL_quote 2 = .ok (.aload_n 0, 1) := by decide +kernel
theorem dL_quote_3 : decode cL_quote 3 = .ok (.iload_n 1, 1) := by decide +kernel
theorem dL_quote_4 : decode cL_quote 4 = .ok (.invokevirtual 151, 3) := by decide +kernel
theorem dL_quote_7 : decode cL_quote 7 = .ok (.i2l, 1) := by decide +kernel
theorem dL_quote_8 : decode cL_quote 8 = .ok (.lastore, 1) := by decide +kernel
theorem dL_quote_9 : decode cL_quote 9 = .ok (.goto 6, 3) := by decide +kernel
theorem dL_quote_12 : decode cL_quote 12 = .ok (.astore_n 3, 1) := by decide +kernel
theorem dL_quote_13 : decode cL_quote 13 = .ok (.iconst 1, 1) := by decide +kernel
theorem dL_quote_14 : decode cL_quote 14 = .ok (.ireturn, 1) := by decide +kernel
theorem dL_quote_15 : decode cL_quote 15 = .ok (.iconst 0, 1) := by decide +kernel
theorem dL_quote_16 : decode cL_quote 16 = .ok (.ireturn, 1) := by decide +kernel
theorem dL_closedShare_0 : decode cL_closedShare 0 = .ok (.aload_n 1, 1) := by decide +kernel
theorem dL_closedShare_1 : decode cL_closedShare 1 = .ok (.iconst 0, 1) := by decide +kernel
theorem dL_closedShare_2 : decode cL_closedShare 2 = .ok (.aload_n 0, 1) := by decide +kernel
theorem dL_closedShare_3 : decode cL_closedShare 3 = .ok (.invokevirtual 154, 3) := by decide +kernel
theorem dL_closedShare_6 : decode cL_closedShare 6 = .ok (.f2d, 1) := by decide +kernel
theorem dL_closedShare_7 : decode cL_closedShare 7 = .ok (.dastore, 1) := by decide +kernel
theorem dL_closedShare_8 : decode cL_closedShare 8 = .ok (.goto 6, 3) := by decide +kernel
theorem dL_closedShare_11 : decode cL_closedShare 11 = .ok (.astore_n 2, 1) := by decide +kernel
theorem dL_closedShare_12 : decode cL_closedShare 12 = .ok (.iconst 1, 1) := by decide +kernel
theorem dL_closedShare_13 : decode cL_closedShare 13 = .ok (.ireturn, 1) := by decide +kernel
theorem dL_closedShare_14 : decode cL_closedShare 14 = .ok (.iconst 0, 1) := by decide +kernel
theorem dL_closedShare_15 : decode cL_closedShare 15 = .ok (.ireturn, 1) := by decide +kernel
theorem dL_meanTop_0 : decode cL_meanTop 0 = .ok (.aload_n 2, 1) := by decide +kernel
theorem dL_meanTop_1 : decode cL_meanTop 1 = .ok (.iconst 0, 1) := by decide +kernel
theorem dL_meanTop_2 : decode cL_meanTop 2 = .ok (.aload_n 0, 1) := by decide +kernel
theorem dL_meanTop_3 : decode cL_meanTop 3 = .ok (.iload_n 1, 1) := by decide +kernel
theorem dL_meanTop_4 : decode cL_meanTop 4 = .ok (.invokevirtual 158, 3) := by decide +kernel
theorem dL_meanTop_7 : decode cL_meanTop 7 = .ok (.dastore, 1) := by decide +kernel
theorem dL_meanTop_8 : decode cL_meanTop 8 = .ok (.goto 6, 3) := by decide +kernel
theorem dL_meanTop_11 : decode cL_meanTop 11 = .ok (.astore_n 3, 1) := by decide +kernel
theorem dL_meanTop_12 : decode cL_meanTop 12 = .ok (.iconst 1, 1) := by decide +kernel
theorem dL_meanTop_13 : decode cL_meanTop 13 = .ok (.ireturn, 1) := by decide +kernel
theorem dL_meanTop_14 : decode cL_meanTop 14 = .ok (.iconst 0, 1) := by decide +kernel
theorem dL_meanTop_15 : decode cL_meanTop 15 = .ok (.ireturn, 1) := by decide +kernel
