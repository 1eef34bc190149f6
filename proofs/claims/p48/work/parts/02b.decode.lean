theorem dX0_init_0 : decode cX0_init 0 = .ok (.aload_n 0, 1) := by decide +kernel
theorem dX0_init_1 : decode cX0_init 1 = .ok (.invokespecial 3, 3) := by decide +kernel
theorem dX0_init_4 : decode cX0_init 4 = .ok (.aload_n 0, 1) := by decide +kernel
theorem dX0_init_5 : decode cX0_init 5 = .ok (.bipush 10, 2) := by decide +kernel
theorem dX0_init_7 : decode cX0_init 7 = .ok (.newarray .int, 2) := by decide +kernel
theorem dX0_init_9 : decode cX0_init 9 = .ok (.putfield 9, 3) := by decide +kernel
theorem dX0_init_12 : decode cX0_init 12 = .ok (.aload_n 0, 1) := by decide +kernel
theorem dX0_init_13 : decode cX0_init 13 = .ok (.iload_n 1, 1) := by decide +kernel
theorem dX0_init_14 : decode cX0_init 14 = .ok (.putfield 15, 3) := by decide +kernel
theorem dX0_init_17 : decode cX0_init 17 = .ok (.aload_n 0, 1) := by decide +kernel
theorem dX0_init_18 : decode cX0_init 18 = .ok (.iload_n 2, 1) := by decide +kernel
theorem dX0_init_19 : decode cX0_init 19 = .ok (.putfield 19, 3) := by decide +kernel
theorem dX0_init_22 : decode cX0_init 22 = .ok (.return_, 1) := by decide +kernel
theorem dX0_hasFlaw_0 : decode cX0_hasFlaw 0 = .ok (.aload_n 0, 1) := by decide +kernel
theorem dX0_hasFlaw_1 : decode cX0_hasFlaw 1 = .ok (.iload_n 1, 1) := by decide +kernel
theorem dX0_hasFlaw_2 : decode cX0_hasFlaw 2 = .ok (.iload_n 2, 1) := by decide +kernel
theorem dX0_hasFlaw_3 : decode cX0_hasFlaw 3 = .ok (.invokevirtual 25, 3) := by decide +kernel
theorem dX0_hasFlaw_6 : decode cX0_hasFlaw 6 = .ok (.ifCond .lt 7, 3) := by decide +kernel
theorem dX0_hasFlaw_9 : decode cX0_hasFlaw 9 = .ok (.iconst 1, 1) := by decide +kernel
theorem dX0_hasFlaw_10 : decode cX0_hasFlaw 10 = .ok (.goto 4, 3) := by decide +kernel
theorem dX0_hasFlaw_13 : decode cX0_hasFlaw 13 = .ok (.iconst 0, 1) := by decide +kernel
theorem dX0_hasFlaw_14 : decode cX0_hasFlaw 14 = .ok (.ireturn, 1) := by decide +kernel
theorem dX0_lastFlaw_0 : decode cX0_lastFlaw 0 = .ok (.iconst (-1), 1) := by decide +kernel
theorem dX0_lastFlaw_1 : decode cX0_lastFlaw 1 = .ok (.istore_n 3, 1) := by decide +kernel
theorem dX0_lastFlaw_2 : decode cX0_lastFlaw 2 = .ok (.iconst 0, 1) := by decide +kernel
theorem dX0_lastFlaw_3 : decode cX0_lastFlaw 3 = .ok (.istore 4, 2) := by decide +kernel
theorem dX0_lastFlaw_5 : decode cX0_lastFlaw 5 = .ok (.iload 4, 2) := by decide +kernel
theorem dX0_lastFlaw_7 : decode cX0_lastFlaw 7 = .ok (.aload_n 0, 1) := by decide +kernel
theorem dX0_lastFlaw_8 : decode cX0_lastFlaw 8 = .ok (.getfield 22, 3) := by decide +kernel
theorem dX0_lastFlaw_11 : decode cX0_lastFlaw 11 = .ok (.if_icmp .ge 53, 3) := by decide +kernel
theorem dX0_lastFlaw_14 : decode cX0_lastFlaw 14 = .ok (.iload 4, 2) := by decide +kernel
theorem dX0_lastFlaw_16 : decode cX0_lastFlaw 16 = .ok (.aload_n 0, 1) := by decide +kernel
theorem dX0_lastFlaw_17 : decode cX0_lastFlaw 17 = .ok (.getfield 9, 3) := by decide +kernel
theorem dX0_lastFlaw_20 : decode cX0_lastFlaw 20 = .ok (.arraylength, 1) := by decide +kernel
theorem dX0_lastFlaw_21 : decode cX0_lastFlaw 21 = .ok (.if_icmp .ge 43, 3) := by decide +kernel
theorem dX0_lastFlaw_24 : decode cX0_lastFlaw 24 = .ok (.aload_n 0, 1) := by decide +kernel
theorem dX0_lastFlaw_25 : decode cX0_lastFlaw 25 = .ok (.getfield 9, 3) := by decide +kernel
theorem dX0_lastFlaw_28 : decode cX0_lastFlaw 28 = .ok (.iload 4, 2) := by decide +kernel
theorem dX0_lastFlaw_30 : decode cX0_lastFlaw 30 = .ok (.iaload, 1) := by decide +kernel
theorem dX0_lastFlaw_31 : decode cX0_lastFlaw 31 = .ok (.iload_n 1, 1) := by decide +kernel
theorem dX0_lastFlaw_32 : decode cX0_lastFlaw 32 = .ok (.if_icmp .lt 26, 3) := by decide +kernel
theorem dX0_lastFlaw_35 : decode cX0_lastFlaw 35 = .ok (.aload_n 0, 1) := by decide +kernel
theorem dX0_lastFlaw_36 : decode cX0_lastFlaw 36 = .ok (.getfield 9, 3) := by decide +kernel
theorem dX0_lastFlaw_39 : decode cX0_lastFlaw 39 = .ok (.iload 4, 2) := by decide +kernel
theorem dX0_lastFlaw_41 : decode cX0_lastFlaw 41 = .ok (.iaload, 1) := by decide +kernel
theorem dX0_lastFlaw_42 : decode cX0_lastFlaw 42 = .ok (.iload_n 2, 1) := by decide +kernel
theorem dX0_lastFlaw_43 : decode cX0_lastFlaw 43 = .ok (.if_icmp .ge 15, 3) := by decide +kernel
theorem dX0_lastFlaw_46 : decode cX0_lastFlaw 46 = .ok (.iload_n 3, 1) := by decide +kernel
theorem dX0_lastFlaw_47 : decode cX0_lastFlaw 47 = .ok (.aload_n 0, 1) := by decide +kernel
theorem dX0_lastFlaw_48 : decode cX0_lastFlaw 48 = .ok (.getfield 9, 3) := by decide +kernel
theorem dX0_lastFlaw_51 : decode cX0_lastFlaw 51 = .ok (.iload 4, 2) := by decide +kernel
theorem dX0_lastFlaw_53 : decode cX0_lastFlaw 53 = .ok (.iaload, 1) := by decide +kernel
theorem dX0_lastFlaw_54 : decode cX0_lastFlaw 54 = .ok (.invokestatic 29, 3) := by decide +kernel
theorem dX0_lastFlaw_57 : decode cX0_lastFlaw 57 = .ok (.istore_n 3, 1) := by decide +kernel
theorem dX0_lastFlaw_58 : decode cX0_lastFlaw 58 = .ok (.iinc 4 1, 3) := by decide +kernel
theorem dX0_lastFlaw_61 : decode cX0_lastFlaw 61 = .ok (.goto (-56), 3) := by decide +kernel
theorem dX0_lastFlaw_64 : decode cX0_lastFlaw 64 = .ok (.iload_n 3, 1) := by decide +kernel
theorem dX0_lastFlaw_65 : decode cX0_lastFlaw 65 = .ok (.ireturn, 1) := by decide +kernel
theorem dX0_nextMatch_0 : decode cX0_nextMatch 0 = .ok (.aload_n 0, 1) := by decide +kernel
theorem dX0_nextMatch_1 : decode cX0_nextMatch 1 = .ok (.getfield 19, 3) := by decide +kernel
theorem dX0_nextMatch_4 : decode cX0_nextMatch 4 = .ok (.iconst 1, 1) := by decide +kernel
theorem dX0_nextMatch_5 : decode cX0_nextMatch 5 = .ok (.if_icmp .ge 7, 3) := by decide +kernel
theorem dX0_nextMatch_8 : decode cX0_nextMatch 8 = .ok (.iload_n 1, 1) := by decide +kernel
theorem dX0_nextMatch_9 : decode cX0_nextMatch 9 = .ok (.goto 15, 3) := by decide +kernel
theorem dX0_nextMatch_12 : decode cX0_nextMatch 12 = .ok (.iload_n 1, 1) := by decide +kernel
theorem dX0_nextMatch_13 : decode cX0_nextMatch 13 = .ok (.iload_n 2, 1) := by decide +kernel
theorem dX0_nextMatch_14 : decode cX0_nextMatch 14 = .ok (.iload_n 1, 1) := by decide +kernel
theorem dX0_nextMatch_15 : decode cX0_nextMatch 15 = .ok (.isub, 1) := by decide +kernel
theorem dX0_nextMatch_16 : decode cX0_nextMatch 16 = .ok (.aload_n 0, 1) := by decide +kernel
theorem dX0_nextMatch_17 : decode cX0_nextMatch 17 = .ok (.getfield 19, 3) := by decide +kernel
theorem dX0_nextMatch_20 : decode cX0_nextMatch 20 = .ok (.invokestatic 34, 3) := by decide +kernel
theorem dX0_nextMatch_23 : decode cX0_nextMatch 23 = .ok (.iadd, 1) := by decide +kernel
theorem dX0_nextMatch_24 : decode cX0_nextMatch 24 = .ok (.ireturn, 1) := by decide +kernel
theorem dX0_firstPlace_0 : decode cX0_firstPlace 0 = .ok (.aload_n 0, 1) := by decide +kernel
theorem dX0_firstPlace_1 : decode cX0_firstPlace 1 = .ok (.iload_n 1, 1) := by decide +kernel
theorem dX0_firstPlace_2 : decode cX0_firstPlace 2 = .ok (.iload_n 3, 1) := by decide +kernel
theorem dX0_firstPlace_3 : decode cX0_firstPlace 3 = .ok (.invokevirtual 37, 3) := by decide +kernel
theorem dX0_firstPlace_6 : decode cX0_firstPlace 6 = .ok (.istore 4, 2) := by decide +kernel
theorem dX0_firstPlace_8 : decode cX0_firstPlace 8 = .ok (.iconst 0, 1) := by decide +kernel
theorem dX0_firstPlace_9 : decode cX0_firstPlace 9 = .ok (.istore 5, 2) := by decide +kernel
theorem dX0_firstPlace_11 : decode cX0_firstPlace 11 = .ok (.iload 5, 2) := by decide +kernel
theorem dX0_firstPlace_13 : decode cX0_firstPlace 13 = .ok (.aload_n 0, 1) := by decide +kernel
theorem dX0_firstPlace_14 : decode cX0_firstPlace 14 = .ok (.getfield 22, 3) := by decide +kernel
theorem dX0_firstPlace_17 : decode cX0_firstPlace 17 = .ok (.if_icmp .gt 40, 3) := by decide +kernel
theorem dX0_firstPlace_20 : decode cX0_firstPlace 20 = .ok (.aload_n 0, 1) := by decide +kernel
theorem dX0_firstPlace_21 : decode cX0_firstPlace 21 = .ok (.iload 4, 2) := by decide +kernel
theorem dX0_firstPlace_23 : decode cX0_firstPlace 23 = .ok (.iload 4, 2) := by decide +kernel
theorem dX0_firstPlace_25 : decode cX0_firstPlace 25 = .ok (.iload_n 2, 1) := by decide +kernel
theorem dX0_firstPlace_26 : decode cX0_firstPlace 26 = .ok (.iadd, 1) := by decide +kernel
theorem dX0_firstPlace_27 : decode cX0_firstPlace 27 = .ok (.invokevirtual 25, 3) := by decide +kernel
theorem dX0_firstPlace_30 : decode cX0_firstPlace 30 = .ok (.istore 6, 2) := by decide +kernel
theorem dX0_firstPlace_32 : decode cX0_firstPlace 32 = .ok (.iload 6, 2) := by decide +kernel
theorem dX0_firstPlace_34 : decode cX0_firstPlace 34 = .ok (.ifCond .ge 6, 3) := by decide +kernel
theorem dX0_firstPlace_37 : decode cX0_firstPlace 37 = .ok (.goto 20, 3) := by decide +kernel
theorem dX0_firstPlace_40 : decode cX0_firstPlace 40 = .ok (.aload_n 0, 1) := by decide +kernel
theorem dX0_firstPlace_41 : decode cX0_firstPlace 41 = .ok (.iload 6, 2) := by decide +kernel
theorem dX0_firstPlace_43 : decode cX0_firstPlace 43 = .ok (.iconst 1, 1) := by decide +kernel
theorem dX0_firstPlace_44 : decode cX0_firstPlace 44 = .ok (.iadd, 1) := by decide +kernel
theorem dX0_firstPlace_45 : decode cX0_firstPlace 45 = .ok (.iload_n 3, 1) := by decide +kernel
theorem dX0_firstPlace_46 : decode cX0_firstPlace 46 = .ok (.invokevirtual 37, 3) := by decide +kernel
theorem dX0_firstPlace_49 : decode cX0_firstPlace 49 = .ok (.istore 4, 2) := by decide +kernel
theorem dX0_firstPlace_51 : decode cX0_firstPlace 51 = .ok (.iinc 5 1, 3) := by decide +kernel
theorem dX0_firstPlace_54 : decode cX0_firstPlace 54 = .ok (.goto (-43), 3) := by decide +kernel
theorem dX0_firstPlace_57 : decode cX0_firstPlace 57 = .ok (.iload 4, 2) := by decide +kernel
theorem dX0_firstPlace_59 : decode cX0_firstPlace 59 = .ok (.iload_n 2, 1) := by decide +kernel
theorem dX0_firstPlace_60 : decode cX0_firstPlace 60 = .ok (.iadd, 1) := by decide +kernel
theorem dX0_firstPlace_61 : decode cX0_firstPlace 61 = .ok (.aload_n 0, 1) := by decide +kernel
theorem dX0_firstPlace_62 : decode cX0_firstPlace 62 = .ok (.getfield 15, 3) := by decide +kernel
theorem dX0_firstPlace_65 : decode cX0_firstPlace 65 = .ok (.if_icmp .gt 8, 3) := by decide +kernel
theorem dX0_firstPlace_68 : decode cX0_firstPlace 68 = .ok (.iload 4, 2) := by decide +kernel
theorem dX0_firstPlace_70 : decode cX0_firstPlace 70 = .ok (.goto 4, 3) := by decide +kernel
theorem dX0_firstPlace_73 : decode cX0_firstPlace 73 = .ok (.iconst (-1), 1) := by decide +kernel
theorem dX0_firstPlace_74 : decode cX0_firstPlace 74 = .ok (.ireturn, 1) := by decide +kernel
theorem dX1_init_0 : decode cX1_init 0 = .ok (.aload_n 0, 1) := by decide +kernel
theorem dX1_init_1 : decode cX1_init 1 = .ok (.invokespecial 3, 3) := by decide +kernel
theorem dX1_init_4 : decode cX1_init 4 = .ok (.aload_n 0, 1) := by decide +kernel
theorem dX1_init_5 : decode cX1_init 5 = .ok (.bipush 6, 2) := by decide +kernel
theorem dX1_init_7 : decode cX1_init 7 = .ok (.newarray .int, 2) := by decide +kernel
theorem dX1_init_9 : decode cX1_init 9 = .ok (.putfield 9, 3) := by decide +kernel
theorem dX1_init_12 : decode cX1_init 12 = .ok (.return_, 1) := by decide +kernel
theorem dX1_cut_0 : decode cX1_cut 0 = .ok (.aload_n 1, 1) := by decide +kernel
theorem dX1_cut_1 : decode cX1_cut 1 = .ok (.getfield 15, 3) := by decide +kernel
theorem dX1_cut_4 : decode cX1_cut 4 = .ok (.istore 5, 2) := by decide +kernel
theorem dX1_cut_6 : decode cX1_cut 6 = .ok (.iconst 0, 1) := by decide +kernel
theorem dX1_cut_7 : decode cX1_cut 7 = .ok (.istore 6, 2) := by decide +kernel
theorem dX1_cut_9 : decode cX1_cut 9 = .ok (.iload 6, 2) := by decide +kernel
theorem dX1_cut_11 : decode cX1_cut 11 = .ok (.iload_n 3, 1) := by decide +kernel
theorem dX1_cut_12 : decode cX1_cut 12 = .ok (.if_icmp .ge 53, 3) := by decide +kernel
theorem dX1_cut_15 : decode cX1_cut 15 = .ok (.iload 6, 2) := by decide +kernel
theorem dX1_cut_17 : decode cX1_cut 17 = .ok (.aload_n 0, 1) := by decide +kernel
theorem dX1_cut_18 : decode cX1_cut 18 = .ok (.getfield 9, 3) := by decide +kernel
theorem dX1_cut_21 : decode cX1_cut 21 = .ok (.arraylength, 1) := by decide +kernel
theorem dX1_cut_22 : decode cX1_cut 22 = .ok (.if_icmp .ge 43, 3) := by decide +kernel
theorem dX1_cut_25 : decode cX1_cut 25 = .ok (.aload_n 1, 1) := by decide +kernel
theorem dX1_cut_26 : decode cX1_cut 26 = .ok (.iload 5, 2) := by decide +kernel
theorem dX1_cut_28 : decode cX1_cut 28 = .ok (.iload 4, 2) := by decide +kernel
theorem dX1_cut_30 : decode cX1_cut 30 = .ok (.iload_n 2, 1) := by decide +kernel
theorem dX1_cut_31 : decode cX1_cut 31 = .ok (.invokevirtual 21, 3) := by decide +kernel
theorem dX1_cut_34 : decode cX1_cut 34 = .ok (.istore 7, 2) := by decide +kernel
theorem dX1_cut_36 : decode cX1_cut 36 = .ok (.iload 7, 2) := by decide +kernel
theorem dX1_cut_38 : decode cX1_cut 38 = .ok (.ifCond .ge 5, 3) := by decide +kernel
theorem dX1_cut_41 : decode cX1_cut 41 = .ok (.iconst 0, 1) := by decide +kernel
theorem dX1_cut_42 : decode cX1_cut 42 = .ok (.ireturn, 1) := by decide +kernel
theorem dX1_cut_43 : decode cX1_cut 43 = .ok (.aload_n 0, 1) := by decide +kernel
theorem dX1_cut_44 : decode cX1_cut 44 = .ok (.getfield 9, 3) := by decide +kernel
theorem dX1_cut_47 : decode cX1_cut 47 = .ok (.iload 6, 2) := by decide +kernel
theorem dX1_cut_49 : decode cX1_cut 49 = .ok (.iload 7, 2) := by decide +kernel
theorem dX1_cut_51 : decode cX1_cut 51 = .ok (.iastore, 1) := by decide +kernel
theorem dX1_cut_52 : decode cX1_cut 52 = .ok (.iload 7, 2) := by decide +kernel
theorem dX1_cut_54 : decode cX1_cut 54 = .ok (.iload 4, 2) := by decide +kernel
theorem dX1_cut_56 : decode cX1_cut 56 = .ok (.iadd, 1) := by decide +kernel
theorem dX1_cut_57 : decode cX1_cut 57 = .ok (.istore 5, 2) := by decide +kernel
theorem dX1_cut_59 : decode cX1_cut 59 = .ok (.iinc 6 1, 3) := by decide +kernel
theorem dX1_cut_62 : decode cX1_cut 62 = .ok (.goto (-53), 3) := by decide +kernel
theorem dX1_cut_65 : decode cX1_cut 65 = .ok (.aload_n 1, 1) := by decide +kernel
theorem dX1_cut_66 : decode cX1_cut 66 = .ok (.iload 5, 2) := by decide +kernel
theorem dX1_cut_68 : decode cX1_cut 68 = .ok (.putfield 15, 3) := by decide +kernel
theorem dX1_cut_71 : decode cX1_cut 71 = .ok (.aload_n 0, 1) := by decide +kernel
theorem dX1_cut_72 : decode cX1_cut 72 = .ok (.aload_n 1, 1) := by decide +kernel
theorem dX1_cut_73 : decode cX1_cut 73 = .ok (.putfield 25, 3) := by decide +kernel
theorem dX1_cut_76 : decode cX1_cut 76 = .ok (.aload_n 0, 1) := by decide +kernel
theorem dX1_cut_77 : decode cX1_cut 77 = .ok (.iload_n 2, 1) := by decide +kernel
theorem dX1_cut_78 : decode cX1_cut 78 = .ok (.putfield 29, 3) := by decide +kernel
theorem dX1_cut_81 : decode cX1_cut 81 = .ok (.aload_n 0, 1) := by decide +kernel
theorem dX1_cut_82 : decode cX1_cut 82 = .ok (.iload_n 3, 1) := by decide +kernel
theorem dX1_cut_83 : decode cX1_cut 83 = .ok (.putfield 32, 3) := by decide +kernel
theorem dX1_cut_86 : decode cX1_cut 86 = .ok (.aload_n 0, 1) := by decide +kernel
theorem dX1_cut_87 : decode cX1_cut 87 = .ok (.iload 4, 2) := by decide +kernel
theorem dX1_cut_89 : decode cX1_cut 89 = .ok (.putfield 35, 3) := by decide +kernel
theorem dX1_cut_92 : decode cX1_cut 92 = .ok (.iconst 1, 1) := by decide +kernel
theorem dX1_cut_93 : decode cX1_cut 93 = .ok (.ireturn, 1) := by decide +kernel
theorem dX1_placeAt_0 : decode cX1_placeAt 0 = .ok (.iload_n 1, 1) := by decide +kernel
theorem dX1_placeAt_1 : decode cX1_placeAt 1 = .ok (.ifCond .lt 21, 3) := by decide +kernel
theorem dX1_placeAt_4 : decode cX1_placeAt 4 = .ok (.iload_n 1, 1) := by decide +kernel
theorem dX1_placeAt_5 : decode cX1_placeAt 5 = .ok (.aload_n 0, 1) := by decide +kernel
theorem dX1_placeAt_6 : decode cX1_placeAt 6 = .ok (.getfield 9, 3) := by decide +kernel
theorem dX1_placeAt_9 : decode cX1_placeAt 9 = .ok (.arraylength, 1) := by decide +kernel
theorem dX1_placeAt_10 : decode cX1_placeAt 10 = .ok (.if_icmp .ge 12, 3) := by decide +kernel
theorem dX1_placeAt_13 : decode cX1_placeAt 13 = .ok (.aload_n 0, 1) := by decide +kernel
theorem dX1_placeAt_14 : decode cX1_placeAt 14 = .ok (.getfield 9, 3) := by decide +kernel
theorem dX1_placeAt_17 : decode cX1_placeAt 17 = .ok (.iload_n 1, 1) := by decide +kernel
theorem dX1_placeAt_18 : decode cX1_placeAt 18 = .ok (.iaload, 1) := by decide +kernel
theorem dX1_placeAt_19 : decode cX1_placeAt 19 = .ok (.goto 4, 3) := by decide +kernel
theorem dX1_placeAt_22 : decode cX1_placeAt 22 = .ok (.iconst 0, 1) := by decide +kernel
theorem dX1_placeAt_23 : decode cX1_placeAt 23 = .ok (.ireturn, 1) := by decide +kernel
theorem dX1_lengthInAll_0 : decode cX1_lengthInAll 0 = .ok (.aload_n 0, 1) := by decide +kernel
theorem dX1_lengthInAll_1 : decode cX1_lengthInAll 1 = .ok (.getfield 32, 3) := by decide +kernel
theorem dX1_lengthInAll_4 : decode cX1_lengthInAll 4 = .ok (.aload_n 0, 1) := by decide +kernel
theorem dX1_lengthInAll_5 : decode cX1_lengthInAll 5 = .ok (.getfield 35, 3) := by decide +kernel
theorem dX1_lengthInAll_8 : decode cX1_lengthInAll 8 = .ok (.imul, 1) := by decide +kernel
theorem dX1_lengthInAll_9 : decode cX1_lengthInAll 9 = .ok (.ireturn, 1) := by decide +kernel
theorem dX1_fitsItsCloth_0 : decode cX1_fitsItsCloth 0 = .ok (.aload_n 0, 1) := by decide +kernel
theorem dX1_fitsItsCloth_1 : decode cX1_fitsItsCloth 1 = .ok (.getfield 25, 3) := by decide +kernel
theorem dX1_fitsItsCloth_4 : decode cX1_fitsItsCloth 4 = .ok (.ifnonnull 16, 3) := by decide +kernel
theorem dX1_fitsItsCloth_7 : decode cX1_fitsItsCloth 7 = .ok (.aload_n 0, 1) := by decide +kernel
theorem dX1_fitsItsCloth_8 : decode cX1_fitsItsCloth 8 = .ok (.getfield 32, 3) := by decide +kernel
theorem dX1_fitsItsCloth_11 : decode cX1_fitsItsCloth 11 = .ok (.ifCond .ne 7, 3) := by decide +kernel
theorem dX1_fitsItsCloth_14 : decode cX1_fitsItsCloth 14 = .ok (.iconst 1, 1) := by decide +kernel
theorem dX1_fitsItsCloth_15 : decode cX1_fitsItsCloth 15 = .ok (.goto 4, 3) := by decide +kernel
theorem dX1_fitsItsCloth_18 : decode cX1_fitsItsCloth 18 = .ok (.iconst 0, 1) := by decide +kernel
theorem dX1_fitsItsCloth_19 : decode cX1_fitsItsCloth 19 = .ok (.ireturn, 1) := by decide +kernel
theorem dX1_fitsItsCloth_20 : decode cX1_fitsItsCloth 20 = .ok (.iconst 0, 1) := by decide +kernel
theorem dX1_fitsItsCloth_21 : decode cX1_fitsItsCloth 21 = .ok (.istore_n 1, 1) := by decide +kernel
theorem dX1_fitsItsCloth_22 : decode cX1_fitsItsCloth 22 = .ok (.iload_n 1, 1) := by decide +kernel
theorem dX1_fitsItsCloth_23 : decode cX1_fitsItsCloth 23 = .ok (.aload_n 0, 1) := by decide +kernel
theorem dX1_fitsItsCloth_24 : decode cX1_fitsItsCloth 24 = .ok (.getfield 32, 3) := by decide +kernel
theorem dX1_fitsItsCloth_27 : decode cX1_fitsItsCloth 27 = .ok (.if_icmp .ge 50, 3) := by decide +kernel
theorem dX1_fitsItsCloth_30 : decode cX1_fitsItsCloth 30 = .ok (.aload_n 0, 1) := by decide +kernel
theorem dX1_fitsItsCloth_31 : decode cX1_fitsItsCloth 31 = .ok (.iload_n 1, 1) := by decide +kernel
theorem dX1_fitsItsCloth_32 : decode cX1_fitsItsCloth 32 = .ok (.invokevirtual 38, 3) := by decide +kernel
theorem dX1_fitsItsCloth_35 : decode cX1_fitsItsCloth 35 = .ok (.istore_n 2, 1) := by decide +kernel
theorem dX1_fitsItsCloth_36 : decode cX1_fitsItsCloth 36 = .ok (.iload_n 2, 1) := by decide +kernel
theorem dX1_fitsItsCloth_37 : decode cX1_fitsItsCloth 37 = .ok (.aload_n 0, 1) := by decide +kernel
theorem dX1_fitsItsCloth_38 : decode cX1_fitsItsCloth 38 = .ok (.getfield 25, 3) := by decide +kernel
theorem dX1_fitsItsCloth_41 : decode cX1_fitsItsCloth 41 = .ok (.iload_n 2, 1) := by decide +kernel
theorem dX1_fitsItsCloth_42 : decode cX1_fitsItsCloth 42 = .ok (.aload_n 0, 1) := by decide +kernel
theorem dX1_fitsItsCloth_43 : decode cX1_fitsItsCloth 43 = .ok (.getfield 29, 3) := by decide +kernel
theorem dX1_fitsItsCloth_46 : decode cX1_fitsItsCloth 46 = .ok (.invokevirtual 42, 3) := by decide +kernel
theorem dX1_fitsItsCloth_49 : decode cX1_fitsItsCloth 49 = .ok (.if_icmp .ne 20, 3) := by decide +kernel
theorem dX1_fitsItsCloth_52 : decode cX1_fitsItsCloth 52 = .ok (.aload_n 0, 1) := by decide +kernel
theorem dX1_fitsItsCloth_53 : decode cX1_fitsItsCloth 53 = .ok (.getfield 25, 3) := by decide +kernel
theorem dX1_fitsItsCloth_56 : decode cX1_fitsItsCloth 56 = .ok (.iload_n 2, 1) := by decide +kernel
theorem dX1_fitsItsCloth_57 : decode cX1_fitsItsCloth 57 = .ok (.iload_n 2, 1) := by decide +kernel
theorem dX1_fitsItsCloth_58 : decode cX1_fitsItsCloth 58 = .ok (.aload_n 0, 1) := by decide +kernel
theorem dX1_fitsItsCloth_59 : decode cX1_fitsItsCloth 59 = .ok (.getfield 35, 3) := by decide +kernel
theorem dX1_fitsItsCloth_62 : decode cX1_fitsItsCloth 62 = .ok (.iadd, 1) := by decide +kernel
theorem dX1_fitsItsCloth_63 : decode cX1_fitsItsCloth 63 = .ok (.invokevirtual 46, 3) := by decide +kernel
theorem dX1_fitsItsCloth_66 : decode cX1_fitsItsCloth 66 = .ok (.ifCond .eq 5, 3) := by decide +kernel
theorem dX1_fitsItsCloth_69 : decode cX1_fitsItsCloth 69 = .ok (.iconst 0, 1) := by decide +kernel
theorem dX1_fitsItsCloth_70 : decode cX1_fitsItsCloth 70 = .ok (.ireturn, 1) := by decide +kernel
theorem dX1_fitsItsCloth_71 : decode cX1_fitsItsCloth 71 = .ok (.iinc 1 1, 3) := by decide +kernel
theorem dX1_fitsItsCloth_74 : decode cX1_fitsItsCloth 74 = .ok (.goto (-52), 3) := by decide +kernel
theorem dX1_fitsItsCloth_77 : decode cX1_fitsItsCloth 77 = .ok (.iconst 1, 1) := by decide +kernel
theorem dX1_fitsItsCloth_78 : decode cX1_fitsItsCloth 78 = .ok (.ireturn, 1) := by decide +kernel
theorem dX1_overlaps_0 : decode cX1_overlaps 0 = .ok (.aload_n 0, 1) := by decide +kernel
theorem dX1_overlaps_1 : decode cX1_overlaps 1 = .ok (.getfield 25, 3) := by decide +kernel
theorem dX1_overlaps_4 : decode cX1_overlaps 4 = .ok (.ifnull 14, 3) := by decide +kernel
theorem dX1_overlaps_7 : decode cX1_overlaps 7 = .ok (.aload_n 0, 1) := by decide +kernel
theorem dX1_overlaps_8 : decode cX1_overlaps 8 = .ok (.getfield 25, 3) := by decide +kernel
theorem dX1_overlaps_11 : decode cX1_overlaps 11 = .ok (.aload_n 1, 1) := by decide +kernel
theorem dX1_overlaps_12 : decode cX1_overlaps 12 = .ok (.getfield 25, 3) := by decide +kernel
theorem dX1_overlaps_15 : decode cX1_overlaps 15 = .ok (.if_acmp .eq 5, 3) := by decide +kernel
theorem dX1_overlaps_18 : decode cX1_overlaps 18 = .ok (.iconst 0, 1) := by decide +kernel
theorem dX1_overlaps_19 : decode cX1_overlaps 19 = .ok (.ireturn, 1) := by decide +kernel
theorem dX1_overlaps_20 : decode cX1_overlaps 20 = .ok (.iconst 0, 1) := by decide +kernel
theorem dX1_overlaps_21 : decode cX1_overlaps 21 = .ok (.istore_n 2, 1) := by decide +kernel
theorem dX1_overlaps_22 : decode cX1_overlaps 22 = .ok (.iload_n 2, 1) := by decide +kernel
theorem dX1_overlaps_23 : decode cX1_overlaps 23 = .ok (.aload_n 0, 1) := by decide +kernel
theorem dX1_overlaps_24 : decode cX1_overlaps 24 = .ok (.getfield 32, 3) := by decide +kernel
theorem dX1_overlaps_27 : decode cX1_overlaps 27 = .ok (.if_icmp .ge 85, 3) := by decide +kernel
theorem dX1_overlaps_30 : decode cX1_overlaps 30 = .ok (.iconst 0, 1) := by decide +kernel
theorem dX1_overlaps_31 : decode cX1_overlaps 31 = .ok (.istore_n 3, 1) := by decide +kernel
theorem dX1_overlaps_32 : decode cX1_overlaps 32 = .ok (.iload_n 3, 1) := by decide +kernel
theorem dX1_overlaps_33 : decode cX1_overlaps 33 = .ok (.aload_n 1, 1) := by decide +kernel
theorem dX1_overlaps_34 : decode cX1_overlaps 34 = .ok (.getfield 32, 3) := by decide +kernel
theorem dX1_overlaps_37 : decode cX1_overlaps 37 = .ok (.if_icmp .ge 69, 3) := by decide +kernel
theorem dX1_overlaps_40 : decode cX1_overlaps 40 = .ok (.aload_n 0, 1) := by decide +kernel
theorem dX1_overlaps_41 : decode cX1_overlaps 41 = .ok (.aload_n 1, 1) := by decide +kernel
theorem dX1_overlaps_42 : decode cX1_overlaps 42 = .ok (.if_acmp .ne 12, 3) := by decide +kernel
theorem dX1_overlaps_45 : decode cX1_overlaps 45 = .ok (.iload_n 2, 1) := by decide +kernel
theorem dX1_overlaps_46 : decode cX1_overlaps 46 = .ok (.iload_n 3, 1) := by decide +kernel
theorem dX1_overlaps_47 : decode cX1_overlaps 47 = .ok (.if_icmp .ne 7, 3) := by decide +kernel
theorem dX1_overlaps_50 : decode cX1_overlaps 50 = .ok (.iconst 1, 1) := by decide +kernel
theorem dX1_overlaps_51 : decode cX1_overlaps 51 = .ok (.goto 4, 3) := by decide +kernel
theorem dX1_overlaps_54 : decode cX1_overlaps 54 = .ok (.iconst 0, 1) := by decide +kernel
theorem dX1_overlaps_55 : decode cX1_overlaps 55 = .ok (.istore 4, 2) := by decide +kernel
theorem dX1_overlaps_57 : decode cX1_overlaps 57 = .ok (.iload 4, 2) := by decide +kernel
theorem dX1_overlaps_59 : decode cX1_overlaps 59 = .ok (.ifCond .ne 41, 3) := by decide +kernel
theorem dX1_overlaps_62 : decode cX1_overlaps 62 = .ok (.aload_n 0, 1) := by decide +kernel
theorem dX1_overlaps_63 : decode cX1_overlaps 63 = .ok (.iload_n 2, 1) := by decide +kernel
theorem dX1_overlaps_64 : decode cX1_overlaps 64 = .ok (.invokevirtual 38, 3) := by decide +kernel
theorem dX1_overlaps_67 : decode cX1_overlaps 67 = .ok (.aload_n 1, 1) := by decide +kernel
theorem dX1_overlaps_68 : decode cX1_overlaps 68 = .ok (.iload_n 3, 1) := by decide +kernel
theorem dX1_overlaps_69 : decode cX1_overlaps 69 = .ok (.invokevirtual 38, 3) := by decide +kernel
theorem dX1_overlaps_72 : decode cX1_overlaps 72 = .ok (.aload_n 1, 1) := by decide +kernel
theorem dX1_overlaps_73 : decode cX1_overlaps 73 = .ok (.getfield 35, 3) := by decide +kernel
theorem dX1_overlaps_76 : decode cX1_overlaps 76 = .ok (.iadd, 1) := by decide +kernel
theorem dX1_overlaps_77 : decode cX1_overlaps 77 = .ok (.if_icmp .ge 23, 3) := by decide +kernel
theorem dX1_overlaps_80 : decode cX1_overlaps 80 = .ok (.aload_n 1, 1) := by decide +kernel
theorem dX1_overlaps_81 : decode cX1_overlaps 81 = .ok (.iload_n 3, 1) := by decide +kernel
theorem dX1_overlaps_82 : decode cX1_overlaps 82 = .ok (.invokevirtual 38, 3) := by decide +kernel
theorem dX1_overlaps_85 : decode cX1_overlaps 85 = .ok (.aload_n 0, 1) := by decide +kernel
theorem dX1_overlaps_86 : decode cX1_overlaps 86 = .ok (.iload_n 2, 1) := by decide +kernel
theorem dX1_overlaps_87 : decode cX1_overlaps 87 = .ok (.invokevirtual 38, 3) := by decide +kernel
theorem dX1_overlaps_90 : decode cX1_overlaps 90 = .ok (.aload_n 0, 1) := by decide +kernel
theorem dX1_overlaps_91 : decode cX1_overlaps 91 = .ok (.getfield 35, 3) := by decide +kernel
theorem dX1_overlaps_94 : decode cX1_overlaps 94 = .ok (.iadd, 1) := by decide +kernel
theorem dX1_overlaps_95 : decode cX1_overlaps 95 = .ok (.if_icmp .ge 5, 3) := by decide +kernel
theorem dX1_overlaps_98 : decode cX1_overlaps 98 = .ok (.iconst 1, 1) := by decide +kernel
theorem dX1_overlaps_99 : decode cX1_overlaps 99 = .ok (.ireturn, 1) := by decide +kernel
theorem dX1_overlaps_100 : decode cX1_overlaps 100 = .ok (.iinc 3 1, 3) := by decide +kernel
theorem dX1_overlaps_103 : decode cX1_overlaps 103 = .ok (.goto (-71), 3) := by decide +kernel
theorem dX1_overlaps_106 : decode cX1_overlaps 106 = .ok (.iinc 2 1, 3) := by decide +kernel
theorem dX1_overlaps_109 : decode cX1_overlaps 109 = .ok (.goto (-87), 3) := by decide +kernel
theorem dX1_overlaps_112 : decode cX1_overlaps 112 = .ok (.iconst 0, 1) := by decide +kernel
theorem dX1_overlaps_113 : decode cX1_overlaps 113 = .ok (.ireturn, 1) := by decide +kernel
theorem dX2_init_0 : decode cX2_init 0 = .ok (.aload_n 0, 1) := by decide +kernel
theorem dX2_init_1 : decode cX2_init 1 = .ok (.invokespecial 3, 3) := by decide +kernel
theorem dX2_init_4 : decode cX2_init 4 = .ok (.aload_n 0, 1) := by decide +kernel
theorem dX2_init_5 : decode cX2_init 5 = .ok (.new 9, 3) := by decide +kernel
theorem dX2_init_8 : decode cX2_init 8 = .ok (.dup, 1) := by decide +kernel
theorem dX2_init_9 : decode cX2_init 9 = .ok (.invokespecial 11, 3) := by decide +kernel
theorem dX2_init_12 : decode cX2_init 12 = .ok (.putfield 12, 3) := by decide +kernel
theorem dX2_init_15 : decode cX2_init 15 = .ok (.return_, 1) := by decide +kernel
theorem dX2_count_0 : decode cX2_count 0 = .ok (.aload_n 0, 1) := by decide +kernel
theorem dX2_count_1 : decode cX2_count 1 = .ok (.getfield 12, 3) := by decide +kernel
theorem dX2_count_4 : decode cX2_count 4 = .ok (.invokevirtual 18, 3) := by decide +kernel
theorem dX2_count_7 : decode cX2_count 7 = .ok (.ireturn, 1) := by decide +kernel
theorem dX2_add_0 : decode cX2_add 0 = .ok (.aload_n 0, 1) := by decide +kernel
theorem dX2_add_1 : decode cX2_add 1 = .ok (.getfield 12, 3) := by decide +kernel
theorem dX2_add_4 : decode cX2_add 4 = .ok (.aload_n 1, 1) := by decide +kernel
theorem dX2_add_5 : decode cX2_add 5 = .ok (.invokevirtual 22, 3) := by decide +kernel
theorem dX2_add_8 : decode cX2_add 8 = .ok (.pop, 1) := by decide +kernel
theorem dX2_add_9 : decode cX2_add 9 = .ok (.return_, 1) := by decide +kernel
theorem dX2_settle_0 : decode cX2_settle 0 = .ok (.iconst 0, 1) := by decide +kernel
theorem dX2_settle_1 : decode cX2_settle 1 = .ok (.istore_n 2, 1) := by decide +kernel
theorem dX2_settle_2 : decode cX2_settle 2 = .ok (.iload_n 2, 1) := by decide +kernel
theorem dX2_settle_3 : decode cX2_settle 3 = .ok (.aload_n 0, 1) := by decide +kernel
theorem dX2_settle_4 : decode cX2_settle 4 = .ok (.getfield 12, 3) := by decide +kernel
theorem dX2_settle_7 : decode cX2_settle 7 = .ok (.invokevirtual 18, 3) := by decide +kernel
theorem dX2_settle_10 : decode cX2_settle 10 = .ok (.if_icmp .ge 24, 3) := by decide +kernel
theorem dX2_settle_13 : decode cX2_settle 13 = .ok (.aload_n 0, 1) := by decide +kernel
theorem dX2_settle_14 : decode cX2_settle 14 = .ok (.getfield 12, 3) := by decide +kernel
theorem dX2_settle_17 : decode cX2_settle 17 = .ok (.iload_n 2, 1) := by decide +kernel
theorem dX2_settle_18 : decode cX2_settle 18 = .ok (.invokevirtual 34, 3) := by decide +kernel
theorem dX2_settle_21 : decode cX2_settle 21 = .ok (.checkcast 37, 3) := by decide +kernel
theorem dX2_settle_24 : decode cX2_settle 24 = .ok (.iload_n 1, 1) := by decide +kernel
theorem dX2_settle_25 : decode cX2_settle 25 = .ok (.invokevirtual 39, 3) := by decide +kernel
theorem dX2_settle_28 : decode cX2_settle 28 = .ok (.iinc 2 1, 3) := by decide +kernel
theorem dX2_settle_31 : decode cX2_settle 31 = .ok (.goto (-29), 3) := by decide +kernel
theorem dX2_settle_34 : decode cX2_settle 34 = .ok (.return_, 1) := by decide +kernel
theorem dX2_thicknessInAll_0 : decode cX2_thicknessInAll 0 = .ok (.iconst 0, 1) := by decide +kernel
theorem dX2_thicknessInAll_1 : decode cX2_thicknessInAll 1 = .ok (.istore_n 1, 1) := by decide +kernel
theorem dX2_thicknessInAll_2 : decode cX2_thicknessInAll 2 = .ok (.iconst 0, 1) := by decide +kernel
theorem dX2_thicknessInAll_3 : decode cX2_thicknessInAll 3 = .ok (.istore_n 2, 1) := by decide +kernel
theorem dX2_thicknessInAll_4 : decode cX2_thicknessInAll 4 = .ok (.iload_n 2, 1) := by decide +kernel
theorem dX2_thicknessInAll_5 : decode cX2_thicknessInAll 5 = .ok (.aload_n 0, 1) := by decide +kernel
theorem dX2_thicknessInAll_6 : decode cX2_thicknessInAll 6 = .ok (.getfield 12, 3) := by decide +kernel
theorem dX2_thicknessInAll_9 : decode cX2_thicknessInAll 9 = .ok (.invokevirtual 18, 3) := by decide +kernel
theorem dX2_thicknessInAll_12 : decode cX2_thicknessInAll 12 = .ok (.if_icmp .ge 26, 3) := by decide +kernel
theorem dX2_thicknessInAll_15 : decode cX2_thicknessInAll 15 = .ok (.iload_n 1, 1) := by decide +kernel
theorem dX2_thicknessInAll_16 : decode cX2_thicknessInAll 16 = .ok (.aload_n 0, 1) := by decide +kernel
theorem dX2_thicknessInAll_17 : decode cX2_thicknessInAll 17 = .ok (.getfield 12, 3) := by decide +kernel
theorem dX2_thicknessInAll_20 : decode cX2_thicknessInAll 20 = .ok (.iload_n 2, 1) := by decide +kernel
theorem dX2_thicknessInAll_21 : decode cX2_thicknessInAll 21 = .ok (.invokevirtual 34, 3) := by decide +kernel
theorem dX2_thicknessInAll_24 : decode cX2_thicknessInAll 24 = .ok (.checkcast 37, 3) := by decide +kernel
theorem dX2_thicknessInAll_27 : decode cX2_thicknessInAll 27 = .ok (.getfield 43, 3) := by decide +kernel
theorem dX2_thicknessInAll_30 : decode cX2_thicknessInAll 30 = .ok (.iadd, 1) := by decide +kernel
theorem dX2_thicknessInAll_31 : decode cX2_thicknessInAll 31 = .ok (.istore_n 1, 1) := by decide +kernel
theorem dX2_thicknessInAll_32 : decode cX2_thicknessInAll 32 = .ok (.iinc 2 1, 3) := by decide +kernel
theorem dX2_thicknessInAll_35 : decode cX2_thicknessInAll 35 = .ok (.goto (-31), 3) := by decide +kernel
theorem dX2_thicknessInAll_38 : decode cX2_thicknessInAll 38 = .ok (.iload_n 1, 1) := by decide +kernel
theorem dX2_thicknessInAll_39 : decode cX2_thicknessInAll 39 = .ok (.ireturn, 1) := by decide +kernel
theorem dX2_sinkingUnder_0 : decode cX2_sinkingUnder 0 = .ok (.iconst 0, 1) := by decide +kernel
theorem dX2_sinkingUnder_1 : decode cX2_sinkingUnder 1 = .ok (.istore_n 2, 1) := by decide +kernel
theorem dX2_sinkingUnder_2 : decode cX2_sinkingUnder 2 = .ok (.iconst 0, 1) := by decide +kernel
theorem dX2_sinkingUnder_3 : decode cX2_sinkingUnder 3 = .ok (.istore_n 3, 1) := by decide +kernel
theorem dX2_sinkingUnder_4 : decode cX2_sinkingUnder 4 = .ok (.iload_n 3, 1) := by decide +kernel
theorem dX2_sinkingUnder_5 : decode cX2_sinkingUnder 5 = .ok (.aload_n 0, 1) := by decide +kernel
theorem dX2_sinkingUnder_6 : decode cX2_sinkingUnder 6 = .ok (.getfield 12, 3) := by decide +kernel
theorem dX2_sinkingUnder_9 : decode cX2_sinkingUnder 9 = .ok (.invokevirtual 18, 3) := by decide +kernel
theorem dX2_sinkingUnder_12 : decode cX2_sinkingUnder 12 = .ok (.if_icmp .ge 27, 3) := by decide +kernel
theorem dX2_sinkingUnder_15 : decode cX2_sinkingUnder 15 = .ok (.iload_n 2, 1) := by decide +kernel
theorem dX2_sinkingUnder_16 : decode cX2_sinkingUnder 16 = .ok (.aload_n 0, 1) := by decide +kernel
theorem dX2_sinkingUnder_17 : decode cX2_sinkingUnder 17 = .ok (.getfield 12, 3) := by decide +kernel
theorem dX2_sinkingUnder_20 : decode cX2_sinkingUnder 20 = .ok (.iload_n 3, 1) := by decide +kernel
theorem dX2_sinkingUnder_21 : decode cX2_sinkingUnder 21 = .ok (.invokevirtual 34, 3) := by decide +kernel
theorem dX2_sinkingUnder_24 : decode cX2_sinkingUnder 24 = .ok (.checkcast 37, 3) := by decide +kernel
theorem dX2_sinkingUnder_27 : decode cX2_sinkingUnder 27 = .ok (.iload_n 1, 1) := by decide +kernel
theorem dX2_sinkingUnder_28 : decode cX2_sinkingUnder 28 = .ok (.invokevirtual 47, 3) := by decide +kernel
theorem dX2_sinkingUnder_31 : decode cX2_sinkingUnder 31 = .ok (.iadd, 1) := by decide +kernel
theorem dX2_sinkingUnder_32 : decode cX2_sinkingUnder 32 = .ok (.istore_n 2, 1) := by decide +kernel
theorem dX2_sinkingUnder_33 : decode cX2_sinkingUnder 33 = .ok (.iinc 3 1, 3) := by decide +kernel
theorem dX2_sinkingUnder_36 : decode cX2_sinkingUnder 36 = .ok (.goto (-32), 3) := by decide +kernel
theorem dX2_sinkingUnder_39 : decode cX2_sinkingUnder 39 = .ok (.iload_n 2, 1) := by decide +kernel
theorem dX2_sinkingUnder_40 : decode cX2_sinkingUnder 40 = .ok (.ireturn, 1) := by decide +kernel
theorem dX2_price_0 : decode cX2_price 0 = .ok (.iconst 0, 1) := by decide +kernel
theorem dX2_price_1 : decode cX2_price 1 = .ok (.istore_n 1, 1) := by decide +kernel
theorem dX2_price_2 : decode cX2_price 2 = .ok (.iconst 0, 1) := by decide +kernel
theorem dX2_price_3 : decode cX2_price 3 = .ok (.istore_n 2, 1) := by decide +kernel
theorem dX2_price_4 : decode cX2_price 4 = .ok (.iload_n 2, 1) := by decide +kernel
theorem dX2_price_5 : decode cX2_price 5 = .ok (.aload_n 0, 1) := by decide +kernel
theorem dX2_price_6 : decode cX2_price 6 = .ok (.getfield 12, 3) := by decide +kernel
theorem dX2_price_9 : decode cX2_price 9 = .ok (.invokevirtual 18, 3) := by decide +kernel
theorem dX2_price_12 : decode cX2_price 12 = .ok (.if_icmp .ge 26, 3) := by decide +kernel
theorem dX2_price_15 : decode cX2_price 15 = .ok (.iload_n 1, 1) := by decide +kernel
theorem dX2_price_16 : decode cX2_price 16 = .ok (.aload_n 0, 1) := by decide +kernel
theorem dX2_price_17 : decode cX2_price 17 = .ok (.getfield 12, 3) := by decide +kernel
theorem dX2_price_20 : decode cX2_price 20 = .ok (.iload_n 2, 1) := by decide +kernel
theorem dX2_price_21 : decode cX2_price 21 = .ok (.invokevirtual 34, 3) := by decide +kernel
theorem dX2_price_24 : decode cX2_price 24 = .ok (.checkcast 37, 3) := by decide +kernel
theorem dX2_price_27 : decode cX2_price 27 = .ok (.invokevirtual 51, 3) := by decide +kernel
theorem dX2_price_30 : decode cX2_price 30 = .ok (.iadd, 1) := by decide +kernel
theorem dX2_price_31 : decode cX2_price 31 = .ok (.istore_n 1, 1) := by decide +kernel
theorem dX2_price_32 : decode cX2_price 32 = .ok (.iinc 2 1, 3) := by decide +kernel
theorem dX2_price_35 : decode cX2_price 35 = .ok (.goto (-31), 3) := by decide +kernel
theorem dX2_price_38 : decode cX2_price 38 = .ok (.iload_n 1, 1) := by decide +kernel
theorem dX2_price_39 : decode cX2_price 39 = .ok (.ireturn, 1) := by decide +kernel
theorem dX3_init_0 : decode cX3_init 0 = .ok (.aload_n 0, 1) := by decide +kernel
theorem dX3_init_1 : decode cX3_init 1 = .ok (.invokespecial 3, 3) := by decide +kernel
theorem dX3_init_4 : decode cX3_init 4 = .ok (.aload_n 0, 1) := by decide +kernel
theorem dX3_init_5 : decode cX3_init 5 = .ok (.new 9, 3) := by decide +kernel
theorem dX3_init_8 : decode cX3_init 8 = .ok (.dup, 1) := by decide +kernel
theorem dX3_init_9 : decode cX3_init 9 = .ok (.invokespecial 11, 3) := by decide +kernel
theorem dX3_init_12 : decode cX3_init 12 = .ok (.putfield 12, 3) := by decide +kernel
theorem dX3_init_15 : decode cX3_init 15 = .ok (.aload_n 0, 1) := by decide +kernel
theorem dX3_init_16 : decode cX3_init 16 = .ok (.new 9, 3) := by decide +kernel
theorem dX3_init_19 : decode cX3_init 19 = .ok (.dup, 1) := by decide +kernel
theorem dX3_init_20 : decode cX3_init 20 = .ok (.invokespecial 11, 3) := by decide +kernel
theorem dX3_init_23 : decode cX3_init 23 = .ok (.putfield 18, 3) := by decide +kernel
theorem dX3_init_26 : decode cX3_init 26 = .ok (.aload_n 0, 1) := by decide +kernel
theorem dX3_init_27 : decode cX3_init 27 = .ok (.bipush 6, 2) := by decide +kernel
theorem dX3_init_29 : decode cX3_init 29 = .ok (.newarray .int, 2) := by decide +kernel
theorem dX3_init_31 : decode cX3_init 31 = .ok (.putfield 21, 3) := by decide +kernel
theorem dX3_init_34 : decode cX3_init 34 = .ok (.aload_n 0, 1) := by decide +kernel
theorem dX3_init_35 : decode cX3_init 35 = .ok (.bipush 6, 2) := by decide +kernel
theorem dX3_init_37 : decode cX3_init 37 = .ok (.newarray .int, 2) := by decide +kernel
theorem dX3_init_39 : decode cX3_init 39 = .ok (.putfield 25, 3) := by decide +kernel
theorem dX3_init_42 : decode cX3_init 42 = .ok (.aload_n 0, 1) := by decide +kernel
theorem dX3_init_43 : decode cX3_init 43 = .ok (.iload_n 1, 1) := by decide +kernel
theorem dX3_init_44 : decode cX3_init 44 = .ok (.putfield 28, 3) := by decide +kernel
theorem dX3_init_47 : decode cX3_init 47 = .ok (.aload_n 0, 1) := by decide +kernel
theorem dX3_init_48 : decode cX3_init 48 = .ok (.iload_n 2, 1) := by decide +kernel
theorem dX3_init_49 : decode cX3_init 49 = .ok (.putfield 32, 3) := by decide +kernel
theorem dX3_init_52 : decode cX3_init 52 = .ok (.aload_n 0, 1) := by decide +kernel
theorem dX3_init_53 : decode cX3_init 53 = .ok (.invokevirtual 35, 3) := by decide +kernel
theorem dX3_init_56 : decode cX3_init 56 = .ok (.return_, 1) := by decide +kernel
theorem dX3_cellCount_0 : decode cX3_cellCount 0 = .ok (.aload_n 0, 1) := by decide +kernel
theorem dX3_cellCount_1 : decode cX3_cellCount 1 = .ok (.getfield 28, 3) := by decide +kernel
theorem dX3_cellCount_4 : decode cX3_cellCount 4 = .ok (.aload_n 0, 1) := by decide +kernel
theorem dX3_cellCount_5 : decode cX3_cellCount 5 = .ok (.getfield 32, 3) := by decide +kernel
theorem dX3_cellCount_8 : decode cX3_cellCount 8 = .ok (.imul, 1) := by decide +kernel
theorem dX3_cellCount_9 : decode cX3_cellCount 9 = .ok (.ireturn, 1) := by decide +kernel
theorem dX3_cellAt_0 : decode cX3_cellAt 0 = .ok (.aload_n 0, 1) := by decide +kernel
theorem dX3_cellAt_1 : decode cX3_cellAt 1 = .ok (.getfield 32, 3) := by decide +kernel
theorem dX3_cellAt_4 : decode cX3_cellAt 4 = .ok (.iconst 1, 1) := by decide +kernel
theorem dX3_cellAt_5 : decode cX3_cellAt 5 = .ok (.if_icmp .ge 7, 3) := by decide +kernel
theorem dX3_cellAt_8 : decode cX3_cellAt 8 = .ok (.iconst 0, 1) := by decide +kernel
theorem dX3_cellAt_9 : decode cX3_cellAt 9 = .ok (.goto 19, 3) := by decide +kernel
theorem dX3_cellAt_12 : decode cX3_cellAt 12 = .ok (.iload_n 1, 1) := by decide +kernel
theorem dX3_cellAt_13 : decode cX3_cellAt 13 = .ok (.aload_n 0, 1) := by decide +kernel
theorem dX3_cellAt_14 : decode cX3_cellAt 14 = .ok (.getfield 32, 3) := by decide +kernel
theorem dX3_cellAt_17 : decode cX3_cellAt 17 = .ok (.idiv, 1) := by decide +kernel
theorem dX3_cellAt_18 : decode cX3_cellAt 18 = .ok (.bipush 10, 2) := by decide +kernel
theorem dX3_cellAt_20 : decode cX3_cellAt 20 = .ok (.imul, 1) := by decide +kernel
theorem dX3_cellAt_21 : decode cX3_cellAt 21 = .ok (.iload_n 1, 1) := by decide +kernel
theorem dX3_cellAt_22 : decode cX3_cellAt 22 = .ok (.aload_n 0, 1) := by decide +kernel
theorem dX3_cellAt_23 : decode cX3_cellAt 23 = .ok (.getfield 32, 3) := by decide +kernel
theorem dX3_cellAt_26 : decode cX3_cellAt 26 = .ok (.irem, 1) := by decide +kernel
theorem dX3_cellAt_27 : decode cX3_cellAt 27 = .ok (.iadd, 1) := by decide +kernel
theorem dX3_cellAt_28 : decode cX3_cellAt 28 = .ok (.ireturn, 1) := by decide +kernel
theorem dX3_putSprings_0 : decode cX3_putSprings 0 = .ok (.iconst 0, 1) := by decide +kernel
theorem dX3_putSprings_1 : decode cX3_putSprings 1 = .ok (.istore_n 3, 1) := by decide +kernel
theorem dX3_putSprings_2 : decode cX3_putSprings 2 = .ok (.iload_n 3, 1) := by decide +kernel
theorem dX3_putSprings_3 : decode cX3_putSprings 3 = .ok (.aload_n 0, 1) := by decide +kernel
theorem dX3_putSprings_4 : decode cX3_putSprings 4 = .ok (.invokevirtual 38, 3) := by decide +kernel
theorem dX3_putSprings_7 : decode cX3_putSprings 7 = .ok (.if_icmp .ge 20, 3) := by decide +kernel
theorem dX3_putSprings_10 : decode cX3_putSprings 10 = .ok (.aload_n 0, 1) := by decide +kernel
theorem dX3_putSprings_11 : decode cX3_putSprings 11 = .ok (.aload_n 0, 1) := by decide +kernel
theorem dX3_putSprings_12 : decode cX3_putSprings 12 = .ok (.iload_n 3, 1) := by decide +kernel
theorem dX3_putSprings_13 : decode cX3_putSprings 13 = .ok (.invokevirtual 42, 3) := by decide +kernel
theorem dX3_putSprings_16 : decode cX3_putSprings 16 = .ok (.iload_n 1, 1) := by decide +kernel
theorem dX3_putSprings_17 : decode cX3_putSprings 17 = .ok (.iload_n 2, 1) := by decide +kernel
theorem dX3_putSprings_18 : decode cX3_putSprings 18 = .ok (.invokevirtual 46, 3) := by decide +kernel
theorem dX3_putSprings_21 : decode cX3_putSprings 21 = .ok (.iinc 3 1, 3) := by decide +kernel
theorem dX3_putSprings_24 : decode cX3_putSprings 24 = .ok (.goto (-22), 3) := by decide +kernel
theorem dX3_putSprings_27 : decode cX3_putSprings 27 = .ok (.return_, 1) := by decide +kernel
theorem dX3_putSpring_0 : decode cX3_putSpring 0 = .ok (.aload_n 0, 1) := by decide +kernel
theorem dX3_putSpring_1 : decode cX3_putSpring 1 = .ok (.getfield 12, 3) := by decide +kernel
theorem dX3_putSpring_4 : decode cX3_putSpring 4 = .ok (.iload_n 1, 1) := by decide +kernel
theorem dX3_putSpring_5 : decode cX3_putSpring 5 = .ok (.iload_n 2, 1) := by decide +kernel
theorem dX3_putSpring_6 : decode cX3_putSpring 6 = .ok (.invokevirtual 50, 3) := by decide +kernel
theorem dX3_putSpring_9 : decode cX3_putSpring 9 = .ok (.aload_n 0, 1) := by decide +kernel
theorem dX3_putSpring_10 : decode cX3_putSpring 10 = .ok (.getfield 18, 3) := by decide +kernel
theorem dX3_putSpring_13 : decode cX3_putSpring 13 = .ok (.iload_n 1, 1) := by decide +kernel
theorem dX3_putSpring_14 : decode cX3_putSpring 14 = .ok (.iload_n 3, 1) := by decide +kernel
theorem dX3_putSpring_15 : decode cX3_putSpring 15 = .ok (.invokevirtual 50, 3) := by decide +kernel
theorem dX3_putSpring_18 : decode cX3_putSpring 18 = .ok (.return_, 1) := by decide +kernel
theorem dX3_loosenTies_0 : decode cX3_loosenTies 0 = .ok (.aload_n 0, 1) := by decide +kernel
theorem dX3_loosenTies_1 : decode cX3_loosenTies 1 = .ok (.getfield 21, 3) := by decide +kernel
theorem dX3_loosenTies_4 : decode cX3_loosenTies 4 = .ok (.bipush 99, 2) := by decide +kernel
theorem dX3_loosenTies_6 : decode cX3_loosenTies 6 = .ok (.invokestatic 57, 3) := by decide +kernel
theorem dX3_loosenTies_9 : decode cX3_loosenTies 9 = .ok (.aload_n 0, 1) := by decide +kernel
theorem dX3_loosenTies_10 : decode cX3_loosenTies 10 = .ok (.getfield 25, 3) := by decide +kernel
theorem dX3_loosenTies_13 : decode cX3_loosenTies 13 = .ok (.bipush 99, 2) := by decide +kernel
theorem dX3_loosenTies_15 : decode cX3_loosenTies 15 = .ok (.invokestatic 57, 3) := by decide +kernel
theorem dX3_loosenTies_18 : decode cX3_loosenTies 18 = .ok (.return_, 1) := by decide +kernel
theorem dX3_setTie_0 : decode cX3_setTie 0 = .ok (.iload_n 1, 1) := by decide +kernel
theorem dX3_setTie_1 : decode cX3_setTie 1 = .ok (.ifCond .eq 10, 3) := by decide +kernel
theorem dX3_setTie_4 : decode cX3_setTie 4 = .ok (.aload_n 0, 1) := by decide +kernel
theorem dX3_setTie_5 : decode cX3_setTie 5 = .ok (.getfield 21, 3) := by decide +kernel
theorem dX3_setTie_8 : decode cX3_setTie 8 = .ok (.goto 7, 3) := by decide +kernel
theorem dX3_setTie_11 : decode cX3_setTie 11 = .ok (.aload_n 0, 1) := by decide +kernel
theorem dX3_setTie_12 : decode cX3_setTie 12 = .ok (.getfield 25, 3) := by decide +kernel
theorem dX3_setTie_15 : decode cX3_setTie 15 = .ok (.astore 4, 2) := by decide +kernel
theorem dX3_setTie_17 : decode cX3_setTie 17 = .ok (.iload_n 2, 1) := by decide +kernel
theorem dX3_setTie_18 : decode cX3_setTie 18 = .ok (.ifCond .lt 15, 3) := by decide +kernel
theorem dX3_setTie_21 : decode cX3_setTie 21 = .ok (.iload_n 2, 1) := by decide +kernel
theorem dX3_setTie_22 : decode cX3_setTie 22 = .ok (.aload 4, 2) := by decide +kernel
theorem dX3_setTie_24 : decode cX3_setTie 24 = .ok (.arraylength, 1) := by decide +kernel
theorem dX3_setTie_25 : decode cX3_setTie 25 = .ok (.if_icmp .ge 8, 3) := by decide +kernel
theorem dX3_setTie_28 : decode cX3_setTie 28 = .ok (.aload 4, 2) := by decide +kernel
theorem dX3_setTie_30 : decode cX3_setTie 30 = .ok (.iload_n 2, 1) := by decide +kernel
theorem dX3_setTie_31 : decode cX3_setTie 31 = .ok (.iload_n 3, 1) := by decide +kernel
theorem dX3_setTie_32 : decode cX3_setTie 32 = .ok (.iastore, 1) := by decide +kernel
theorem dX3_setTie_33 : decode cX3_setTie 33 = .ok (.return_, 1) := by decide +kernel
theorem dX3_tieAt_0 : decode cX3_tieAt 0 = .ok (.iload_n 1, 1) := by decide +kernel
theorem dX3_tieAt_1 : decode cX3_tieAt 1 = .ok (.ifCond .lt 15, 3) := by decide +kernel
theorem dX3_tieAt_4 : decode cX3_tieAt 4 = .ok (.iload_n 1, 1) := by decide +kernel
theorem dX3_tieAt_5 : decode cX3_tieAt 5 = .ok (.aload_n 0, 1) := by decide +kernel
theorem dX3_tieAt_6 : decode cX3_tieAt 6 = .ok (.arraylength, 1) := by decide +kernel
theorem dX3_tieAt_7 : decode cX3_tieAt 7 = .ok (.if_icmp .ge 9, 3) := by decide +kernel
theorem dX3_tieAt_10 : decode cX3_tieAt 10 = .ok (.aload_n 0, 1) := by decide +kernel
theorem dX3_tieAt_11 : decode cX3_tieAt 11 = .ok (.iload_n 1, 1) := by decide +kernel
theorem dX3_tieAt_12 : decode cX3_tieAt 12 = .ok (.iaload, 1) := by decide +kernel
theorem dX3_tieAt_13 : decode cX3_tieAt 13 = .ok (.goto 5, 3) := by decide +kernel
theorem dX3_tieAt_16 : decode cX3_tieAt 16 = .ok (.bipush 99, 2) := by decide +kernel
theorem dX3_tieAt_18 : decode cX3_tieAt 18 = .ok (.ireturn, 1) := by decide +kernel
theorem dX3_heightAt_0 : decode cX3_heightAt 0 = .ok (.aload_n 0, 1) := by decide +kernel
theorem dX3_heightAt_1 : decode cX3_heightAt 1 = .ok (.getfield 21, 3) := by decide +kernel
theorem dX3_heightAt_4 : decode cX3_heightAt 4 = .ok (.iload_n 1, 1) := by decide +kernel
theorem dX3_heightAt_5 : decode cX3_heightAt 5 = .ok (.bipush 10, 2) := by decide +kernel
theorem dX3_heightAt_7 : decode cX3_heightAt 7 = .ok (.idiv, 1) := by decide +kernel
theorem dX3_heightAt_8 : decode cX3_heightAt 8 = .ok (.invokestatic 63, 3) := by decide +kernel
theorem dX3_heightAt_11 : decode cX3_heightAt 11 = .ok (.aload_n 0, 1) := by decide +kernel
theorem dX3_heightAt_12 : decode cX3_heightAt 12 = .ok (.getfield 25, 3) := by decide +kernel
theorem dX3_heightAt_15 : decode cX3_heightAt 15 = .ok (.iload_n 1, 1) := by decide +kernel
theorem dX3_heightAt_16 : decode cX3_heightAt 16 = .ok (.bipush 10, 2) := by decide +kernel
theorem dX3_heightAt_18 : decode cX3_heightAt 18 = .ok (.irem, 1) := by decide +kernel
theorem dX3_heightAt_19 : decode cX3_heightAt 19 = .ok (.invokestatic 63, 3) := by decide +kernel
theorem dX3_heightAt_22 : decode cX3_heightAt 22 = .ok (.invokestatic 67, 3) := by decide +kernel
theorem dX3_heightAt_25 : decode cX3_heightAt 25 = .ok (.istore_n 2, 1) := by decide +kernel
theorem dX3_heightAt_26 : decode cX3_heightAt 26 = .ok (.aload_n 0, 1) := by decide +kernel
theorem dX3_heightAt_27 : decode cX3_heightAt 27 = .ok (.getfield 12, 3) := by decide +kernel
theorem dX3_heightAt_30 : decode cX3_heightAt 30 = .ok (.iload_n 1, 1) := by decide +kernel
theorem dX3_heightAt_31 : decode cX3_heightAt 31 = .ok (.invokevirtual 73, 3) := by decide +kernel
theorem dX3_heightAt_34 : decode cX3_heightAt 34 = .ok (.iload_n 2, 1) := by decide +kernel
theorem dX3_heightAt_35 : decode cX3_heightAt 35 = .ok (.invokestatic 67, 3) := by decide +kernel
theorem dX3_heightAt_38 : decode cX3_heightAt 38 = .ok (.ireturn, 1) := by decide +kernel
theorem dX3_heightInAll_0 : decode cX3_heightInAll 0 = .ok (.iconst 0, 1) := by decide +kernel
theorem dX3_heightInAll_1 : decode cX3_heightInAll 1 = .ok (.istore_n 1, 1) := by decide +kernel
theorem dX3_heightInAll_2 : decode cX3_heightInAll 2 = .ok (.iconst 0, 1) := by decide +kernel
theorem dX3_heightInAll_3 : decode cX3_heightInAll 3 = .ok (.istore_n 2, 1) := by decide +kernel
theorem dX3_heightInAll_4 : decode cX3_heightInAll 4 = .ok (.iload_n 2, 1) := by decide +kernel
theorem dX3_heightInAll_5 : decode cX3_heightInAll 5 = .ok (.aload_n 0, 1) := by decide +kernel
theorem dX3_heightInAll_6 : decode cX3_heightInAll 6 = .ok (.invokevirtual 38, 3) := by decide +kernel
theorem dX3_heightInAll_9 : decode cX3_heightInAll 9 = .ok (.if_icmp .ge 21, 3) := by decide +kernel
theorem dX3_heightInAll_12 : decode cX3_heightInAll 12 = .ok (.iload_n 1, 1) := by decide +kernel
theorem dX3_heightInAll_13 : decode cX3_heightInAll 13 = .ok (.aload_n 0, 1) := by decide +kernel
theorem dX3_heightInAll_14 : decode cX3_heightInAll 14 = .ok (.aload_n 0, 1) := by decide +kernel
theorem dX3_heightInAll_15 : decode cX3_heightInAll 15 = .ok (.iload_n 2, 1) := by decide +kernel
theorem dX3_heightInAll_16 : decode cX3_heightInAll 16 = .ok (.invokevirtual 42, 3) := by decide +kernel
theorem dX3_heightInAll_19 : decode cX3_heightInAll 19 = .ok (.invokevirtual 76, 3) := by decide +kernel
theorem dX3_heightInAll_22 : decode cX3_heightInAll 22 = .ok (.iadd, 1) := by decide +kernel
theorem dX3_heightInAll_23 : decode cX3_heightInAll 23 = .ok (.istore_n 1, 1) := by decide +kernel
theorem dX3_heightInAll_24 : decode cX3_heightInAll 24 = .ok (.iinc 2 1, 3) := by decide +kernel
theorem dX3_heightInAll_27 : decode cX3_heightInAll 27 = .ok (.goto (-23), 3) := by decide +kernel
theorem dX3_heightInAll_30 : decode cX3_heightInAll 30 = .ok (.iload_n 1, 1) := by decide +kernel
theorem dX3_heightInAll_31 : decode cX3_heightInAll 31 = .ok (.ireturn, 1) := by decide +kernel
theorem dX3_sinkingUnder_0 : decode cX3_sinkingUnder 0 = .ok (.aload_n 0, 1) := by decide +kernel
theorem dX3_sinkingUnder_1 : decode cX3_sinkingUnder 1 = .ok (.iload_n 2, 1) := by decide +kernel
theorem dX3_sinkingUnder_2 : decode cX3_sinkingUnder 2 = .ok (.invokevirtual 76, 3) := by decide +kernel
theorem dX3_sinkingUnder_5 : decode cX3_sinkingUnder 5 = .ok (.bipush 10, 2) := by decide +kernel
theorem dX3_sinkingUnder_7 : decode cX3_sinkingUnder 7 = .ok (.iload_n 1, 1) := by decide +kernel
theorem dX3_sinkingUnder_8 : decode cX3_sinkingUnder 8 = .ok (.imul, 1) := by decide +kernel
theorem dX3_sinkingUnder_9 : decode cX3_sinkingUnder 9 = .ok (.i2l, 1) := by decide +kernel
theorem dX3_sinkingUnder_10 : decode cX3_sinkingUnder 10 = .ok (.aload_n 0, 1) := by decide +kernel
theorem dX3_sinkingUnder_11 : decode cX3_sinkingUnder 11 = .ok (.getfield 18, 3) := by decide +kernel
theorem dX3_sinkingUnder_14 : decode cX3_sinkingUnder 14 = .ok (.iload_n 2, 1) := by decide +kernel
theorem dX3_sinkingUnder_15 : decode cX3_sinkingUnder 15 = .ok (.invokevirtual 73, 3) := by decide +kernel
theorem dX3_sinkingUnder_18 : decode cX3_sinkingUnder 18 = .ok (.aload_n 0, 1) := by decide +kernel
theorem dX3_sinkingUnder_19 : decode cX3_sinkingUnder 19 = .ok (.getfield 79, 3) := by decide +kernel
theorem dX3_sinkingUnder_22 : decode cX3_sinkingUnder 22 = .ok (.iadd, 1) := by decide +kernel
theorem dX3_sinkingUnder_23 : decode cX3_sinkingUnder 23 = .ok (.i2l, 1) := by decide +kernel
theorem dX3_sinkingUnder_24 : decode cX3_sinkingUnder 24 = .ok (.invokestatic 82, 3) := by decide +kernel
theorem dX3_sinkingUnder_27 : decode cX3_sinkingUnder 27 = .ok (.invokestatic 67, 3) := by decide +kernel
theorem dX3_sinkingUnder_30 : decode cX3_sinkingUnder 30 = .ok (.ireturn, 1) := by decide +kernel
theorem dX3_pulledTies_0 : decode cX3_pulledTies 0 = .ok (.aload_n 0, 1) := by decide +kernel
theorem dX3_pulledTies_1 : decode cX3_pulledTies 1 = .ok (.getfield 21, 3) := by decide +kernel
theorem dX3_pulledTies_4 : decode cX3_pulledTies 4 = .ok (.invokestatic 86, 3) := by decide +kernel
theorem dX3_pulledTies_7 : decode cX3_pulledTies 7 = .ok (.aload_n 0, 1) := by decide +kernel
theorem dX3_pulledTies_8 : decode cX3_pulledTies 8 = .ok (.getfield 25, 3) := by decide +kernel
theorem dX3_pulledTies_11 : decode cX3_pulledTies 11 = .ok (.invokestatic 86, 3) := by decide +kernel
theorem dX3_pulledTies_14 : decode cX3_pulledTies 14 = .ok (.iadd, 1) := by decide +kernel
theorem dX3_pulledTies_15 : decode cX3_pulledTies 15 = .ok (.ireturn, 1) := by decide +kernel
theorem dX3_pulledIn_0 : decode cX3_pulledIn 0 = .ok (.iconst 0, 1) := by decide +kernel
theorem dX3_pulledIn_1 : decode cX3_pulledIn 1 = .ok (.istore_n 1, 1) := by decide +kernel
theorem dX3_pulledIn_2 : decode cX3_pulledIn 2 = .ok (.iconst 0, 1) := by decide +kernel
theorem dX3_pulledIn_3 : decode cX3_pulledIn 3 = .ok (.istore_n 2, 1) := by decide +kernel
theorem dX3_pulledIn_4 : decode cX3_pulledIn 4 = .ok (.iload_n 2, 1) := by decide +kernel
theorem dX3_pulledIn_5 : decode cX3_pulledIn 5 = .ok (.aload_n 0, 1) := by decide +kernel
theorem dX3_pulledIn_6 : decode cX3_pulledIn 6 = .ok (.arraylength, 1) := by decide +kernel
theorem dX3_pulledIn_7 : decode cX3_pulledIn 7 = .ok (.if_icmp .ge 20, 3) := by decide +kernel
theorem dX3_pulledIn_10 : decode cX3_pulledIn 10 = .ok (.aload_n 0, 1) := by decide +kernel
theorem dX3_pulledIn_11 : decode cX3_pulledIn 11 = .ok (.iload_n 2, 1) := by decide +kernel
theorem dX3_pulledIn_12 : decode cX3_pulledIn 12 = .ok (.iaload, 1) := by decide +kernel
theorem dX3_pulledIn_13 : decode cX3_pulledIn 13 = .ok (.bipush 99, 2) := by decide +kernel
theorem dX3_pulledIn_15 : decode cX3_pulledIn 15 = .ok (.if_icmp .ge 6, 3) := by decide +kernel
theorem dX3_pulledIn_18 : decode cX3_pulledIn 18 = .ok (.iinc 1 1, 3) := by decide +kernel
theorem dX3_pulledIn_21 : decode cX3_pulledIn 21 = .ok (.iinc 2 1, 3) := by decide +kernel
theorem dX3_pulledIn_24 : decode cX3_pulledIn 24 = .ok (.goto (-20), 3) := by decide +kernel
theorem dX3_pulledIn_27 : decode cX3_pulledIn 27 = .ok (.iload_n 1, 1) := by decide +kernel
theorem dX3_pulledIn_28 : decode cX3_pulledIn 28 = .ok (.ireturn, 1) := by decide +kernel
theorem dX4_init_0 : decode cX4_init 0 = .ok (.aload_n 0, 1) := by decide +kernel
theorem dX4_init_1 : decode cX4_init 1 = .ok (.invokespecial 3, 3) := by decide +kernel
theorem dX4_init_4 : decode cX4_init 4 = .ok (.aload_n 0, 1) := by decide +kernel
theorem dX4_init_5 : decode cX4_init 5 = .ok (.bipush 56, 2) := by decide +kernel
theorem dX4_init_7 : decode cX4_init 7 = .ok (.newarray .int, 2) := by decide +kernel
theorem dX4_init_9 : decode cX4_init 9 = .ok (.putfield 9, 3) := by decide +kernel
theorem dX4_init_12 : decode cX4_init 12 = .ok (.return_, 1) := by decide +kernel
theorem dX4_at_0 : decode cX4_at 0 = .ok (.iload_n 1, 1) := by decide +kernel
theorem dX4_at_1 : decode cX4_at 1 = .ok (.ifCond .lt 21, 3) := by decide +kernel
theorem dX4_at_4 : decode cX4_at 4 = .ok (.iload_n 1, 1) := by decide +kernel
theorem dX4_at_5 : decode cX4_at 5 = .ok (.aload_n 0, 1) := by decide +kernel
theorem dX4_at_6 : decode cX4_at 6 = .ok (.getfield 9, 3) := by decide +kernel
theorem dX4_at_9 : decode cX4_at 9 = .ok (.arraylength, 1) := by decide +kernel
theorem dX4_at_10 : decode cX4_at 10 = .ok (.if_icmp .ge 12, 3) := by decide +kernel
theorem dX4_at_13 : decode cX4_at 13 = .ok (.aload_n 0, 1) := by decide +kernel
theorem dX4_at_14 : decode cX4_at 14 = .ok (.getfield 9, 3) := by decide +kernel
theorem dX4_at_17 : decode cX4_at 17 = .ok (.iload_n 1, 1) := by decide +kernel
theorem dX4_at_18 : decode cX4_at 18 = .ok (.iaload, 1) := by decide +kernel
theorem dX4_at_19 : decode cX4_at 19 = .ok (.goto 4, 3) := by decide +kernel
theorem dX4_at_22 : decode cX4_at 22 = .ok (.iconst 0, 1) := by decide +kernel
theorem dX4_at_23 : decode cX4_at 23 = .ok (.ireturn, 1) := by decide +kernel
theorem dX4_put_0 : decode cX4_put 0 = .ok (.iload_n 1, 1) := by decide +kernel
theorem dX4_put_1 : decode cX4_put 1 = .ok (.ifCond .lt 19, 3) := by decide +kernel
theorem dX4_put_4 : decode cX4_put 4 = .ok (.iload_n 1, 1) := by decide +kernel
theorem dX4_put_5 : decode cX4_put 5 = .ok (.aload_n 0, 1) := by decide +kernel
theorem dX4_put_6 : decode cX4_put 6 = .ok (.getfield 9, 3) := by decide +kernel
theorem dX4_put_9 : decode cX4_put 9 = .ok (.arraylength, 1) := by decide +kernel
theorem dX4_put_10 : decode cX4_put 10 = .ok (.if_icmp .ge 10, 3) := by decide +kernel
theorem dX4_put_13 : decode cX4_put 13 = .ok (.aload_n 0, 1) := by decide +kernel
theorem dX4_put_14 : decode cX4_put 14 = .ok (.getfield 9, 3) := by decide +kernel
theorem dX4_put_17 : decode cX4_put 17 = .ok (.iload_n 1, 1) := by decide +kernel
theorem dX4_put_18 : decode cX4_put 18 = .ok (.iload_n 2, 1) := by decide +kernel
theorem dX4_put_19 : decode cX4_put 19 = .ok (.iastore, 1) := by decide +kernel
theorem dX4_put_20 : decode cX4_put 20 = .ok (.return_, 1) := by decide +kernel
theorem dX4_clear_0 : decode cX4_clear 0 = .ok (.aload_n 0, 1) := by decide +kernel
theorem dX4_clear_1 : decode cX4_clear 1 = .ok (.getfield 9, 3) := by decide +kernel
theorem dX4_clear_4 : decode cX4_clear 4 = .ok (.iconst 0, 1) := by decide +kernel
theorem dX4_clear_5 : decode cX4_clear 5 = .ok (.invokestatic 15, 3) := by decide +kernel
theorem dX4_clear_8 : decode cX4_clear 8 = .ok (.return_, 1) := by decide +kernel
theorem dX5_init_0 : decode cX5_init 0 = .ok (.aload_n 0, 1) := by decide +kernel
theorem dX5_init_1 : decode cX5_init 1 = .ok (.invokespecial 3, 3) := by decide +kernel
theorem dX5_init_4 : decode cX5_init 4 = .ok (.aload_n 0, 1) := by decide +kernel
theorem dX5_init_5 : decode cX5_init 5 = .ok (.bipush 45, 2) := by decide +kernel
theorem dX5_init_7 : decode cX5_init 7 = .ok (.putfield 9, 3) := by decide +kernel
theorem dX5_init_10 : decode cX5_init 10 = .ok (.aload_n 0, 1) := by decide +kernel
theorem dX5_init_11 : decode cX5_init 11 = .ok (.iconst 4, 1) := by decide +kernel
theorem dX5_init_12 : decode cX5_init 12 = .ok (.putfield 15, 3) := by decide +kernel
theorem dX5_init_15 : decode cX5_init 15 = .ok (.return_, 1) := by decide +kernel
theorem dX6_init_0 : decode cX6_init 0 = .ok (.aload_n 0, 1) := by decide +kernel
theorem dX6_init_1 : decode cX6_init 1 = .ok (.invokespecial 3, 3) := by decide +kernel
theorem dX6_init_4 : decode cX6_init 4 = .ok (.aload_n 0, 1) := by decide +kernel
theorem dX6_init_5 : decode cX6_init 5 = .ok (.iload_n 1, 1) := by decide +kernel
theorem dX6_init_6 : decode cX6_init 6 = .ok (.putfield 9, 3) := by decide +kernel
theorem dX6_init_9 : decode cX6_init 9 = .ok (.aload_n 0, 1) := by decide +kernel
theorem dX6_init_10 : decode cX6_init 10 = .ok (.iload_n 2, 1) := by decide +kernel
theorem dX6_init_11 : decode cX6_init 11 = .ok (.putfield 15, 3) := by decide +kernel
theorem dX6_init_14 : decode cX6_init 14 = .ok (.aload_n 0, 1) := by decide +kernel
theorem dX6_init_15 : decode cX6_init 15 = .ok (.iload_n 3, 1) := by decide +kernel
theorem dX6_init_16 : decode cX6_init 16 = .ok (.putfield 19, 3) := by decide +kernel
theorem dX6_init_19 : decode cX6_init 19 = .ok (.aload_n 0, 1) := by decide +kernel
theorem dX6_init_20 : decode cX6_init 20 = .ok (.iload_n 2, 1) := by decide +kernel
theorem dX6_init_21 : decode cX6_init 21 = .ok (.putfield 22, 3) := by decide +kernel
theorem dX6_init_24 : decode cX6_init 24 = .ok (.return_, 1) := by decide +kernel
theorem dX6_settle_0 : decode cX6_settle 0 = .ok (.aload_n 0, 1) := by decide +kernel
theorem dX6_settle_1 : decode cX6_settle 1 = .ok (.dup, 1) := by decide +kernel
theorem dX6_settle_2 : decode cX6_settle 2 = .ok (.getfield 25, 3) := by decide +kernel
theorem dX6_settle_5 : decode cX6_settle 5 = .ok (.iload_n 1, 1) := by decide +kernel
theorem dX6_settle_6 : decode cX6_settle 6 = .ok (.i2l, 1) := by decide +kernel
theorem dX6_settle_7 : decode cX6_settle 7 = .ok (.ladd, 1) := by decide +kernel
theorem dX6_settle_8 : decode cX6_settle 8 = .ok (.putfield 25, 3) := by decide +kernel
theorem dX6_settle_11 : decode cX6_settle 11 = .ok (.aload_n 0, 1) := by decide +kernel
theorem dX6_settle_12 : decode cX6_settle 12 = .ok (.getfield 19, 3) := by decide +kernel
theorem dX6_settle_15 : decode cX6_settle 15 = .ok (.i2l, 1) := by decide +kernel
theorem dX6_settle_16 : decode cX6_settle 16 = .ok (.aload_n 0, 1) := by decide +kernel
theorem dX6_settle_17 : decode cX6_settle 17 = .ok (.getfield 9, 3) := by decide +kernel
theorem dX6_settle_20 : decode cX6_settle 20 = .ok (.bipush 104, 2) := by decide +kernel
theorem dX6_settle_22 : decode cX6_settle 22 = .ok (.if_icmp .ne 9, 3) := by decide +kernel
theorem dX6_settle_25 : decode cX6_settle 25 = .ok (.sipush 1000, 3) := by decide +kernel
theorem dX6_settle_28 : decode cX6_settle 28 = .ok (.goto 20, 3) := by decide +kernel
theorem dX6_settle_31 : decode cX6_settle 31 = .ok (.aload_n 0, 1) := by decide +kernel
theorem dX6_settle_32 : decode cX6_settle 32 = .ok (.getfield 9, 3) := by decide +kernel
theorem dX6_settle_35 : decode cX6_settle 35 = .ok (.bipush 102, 2) := by decide +kernel
theorem dX6_settle_37 : decode cX6_settle 37 = .ok (.if_icmp .ne 9, 3) := by decide +kernel
theorem dX6_settle_40 : decode cX6_settle 40 = .ok (.sipush 400, 3) := by decide +kernel
theorem dX6_settle_43 : decode cX6_settle 43 = .ok (.goto 5, 3) := by decide +kernel
theorem dX6_settle_46 : decode cX6_settle 46 = .ok (.bipush 100, 2) := by decide +kernel
theorem dX6_settle_48 : decode cX6_settle 48 = .ok (.i2l, 1) := by decide +kernel
theorem dX6_settle_49 : decode cX6_settle 49 = .ok (.lmul, 1) := by decide +kernel
theorem dX6_settle_50 : decode cX6_settle 50 = .ok (.lstore_n 2, 1) := by decide +kernel
theorem dX6_settle_51 : decode cX6_settle 51 = .ok (.aload_n 0, 1) := by decide +kernel
theorem dX6_settle_52 : decode cX6_settle 52 = .ok (.aload_n 0, 1) := by decide +kernel
theorem dX6_settle_53 : decode cX6_settle 53 = .ok (.getfield 15, 3) := by decide +kernel
theorem dX6_settle_56 : decode cX6_settle 56 = .ok (.aload_n 0, 1) := by decide +kernel
theorem dX6_settle_57 : decode cX6_settle 57 = .ok (.getfield 15, 3) := by decide +kernel
theorem dX6_settle_60 : decode cX6_settle 60 = .ok (.i2l, 1) := by decide +kernel
theorem dX6_settle_61 : decode cX6_settle 61 = .ok (.aload_n 0, 1) := by decide +kernel
theorem dX6_settle_62 : decode cX6_settle 62 = .ok (.getfield 25, 3) := by decide +kernel
theorem dX6_settle_65 : decode cX6_settle 65 = .ok (.lmul, 1) := by decide +kernel
theorem dX6_settle_66 : decode cX6_settle 66 = .ok (.ldc2_w 29, 3) := by decide +kernel
theorem dX6_settle_69 : decode cX6_settle 69 = .ok (.aload_n 0, 1) := by decide +kernel
theorem dX6_settle_70 : decode cX6_settle 70 = .ok (.getfield 25, 3) := by decide +kernel
theorem dX6_settle_73 : decode cX6_settle 73 = .ok (.lload_n 2, 1) := by decide +kernel
theorem dX6_settle_74 : decode cX6_settle 74 = .ok (.ladd, 1) := by decide +kernel
theorem dX6_settle_75 : decode cX6_settle 75 = .ok (.lmul, 1) := by decide +kernel
theorem dX6_settle_76 : decode cX6_settle 76 = .ok (.invokestatic 31, 3) := by decide +kernel
theorem dX6_settle_79 : decode cX6_settle 79 = .ok (.isub, 1) := by decide +kernel
theorem dX6_settle_80 : decode cX6_settle 80 = .ok (.putfield 22, 3) := by decide +kernel
theorem dX6_settle_83 : decode cX6_settle 83 = .ok (.return_, 1) := by decide +kernel
theorem dX6_sinkingUnder_0 : decode cX6_sinkingUnder 0 = .ok (.aload_n 0, 1) := by decide +kernel
theorem dX6_sinkingUnder_1 : decode cX6_sinkingUnder 1 = .ok (.getfield 22, 3) := by decide +kernel
theorem dX6_sinkingUnder_4 : decode cX6_sinkingUnder 4 = .ok (.iload_n 1, 1) := by decide +kernel
theorem dX6_sinkingUnder_5 : decode cX6_sinkingUnder 5 = .ok (.aload_n 0, 1) := by decide +kernel
theorem dX6_sinkingUnder_6 : decode cX6_sinkingUnder 6 = .ok (.getfield 22, 3) := by decide +kernel
theorem dX6_sinkingUnder_9 : decode cX6_sinkingUnder 9 = .ok (.imul, 1) := by decide +kernel
theorem dX6_sinkingUnder_10 : decode cX6_sinkingUnder 10 = .ok (.i2l, 1) := by decide +kernel
theorem dX6_sinkingUnder_11 : decode cX6_sinkingUnder 11 = .ok (.bipush 20, 2) := by decide +kernel
theorem dX6_sinkingUnder_13 : decode cX6_sinkingUnder 13 = .ok (.aload_n 0, 1) := by decide +kernel
theorem dX6_sinkingUnder_14 : decode cX6_sinkingUnder 14 = .ok (.getfield 19, 3) := by decide +kernel
theorem dX6_sinkingUnder_17 : decode cX6_sinkingUnder 17 = .ok (.imul, 1) := by decide +kernel
theorem dX6_sinkingUnder_18 : decode cX6_sinkingUnder 18 = .ok (.i2l, 1) := by decide +kernel
theorem dX6_sinkingUnder_19 : decode cX6_sinkingUnder 19 = .ok (.invokestatic 31, 3) := by decide +kernel
theorem dX6_sinkingUnder_22 : decode cX6_sinkingUnder 22 = .ok (.invokestatic 35, 3) := by decide +kernel
theorem dX6_sinkingUnder_25 : decode cX6_sinkingUnder 25 = .ok (.ireturn, 1) := by decide +kernel
theorem dX6_price_0 : decode cX6_price 0 = .ok (.aload_n 0, 1) := by decide +kernel
theorem dX6_price_1 : decode cX6_price 1 = .ok (.getfield 15, 3) := by decide +kernel
theorem dX6_price_4 : decode cX6_price 4 = .ok (.aload_n 0, 1) := by decide +kernel
theorem dX6_price_5 : decode cX6_price 5 = .ok (.getfield 9, 3) := by decide +kernel
theorem dX6_price_8 : decode cX6_price 8 = .ok (.bipush 104, 2) := by decide +kernel
theorem dX6_price_10 : decode cX6_price 10 = .ok (.if_icmp .ne 7, 3) := by decide +kernel
theorem dX6_price_13 : decode cX6_price 13 = .ok (.iconst 3, 1) := by decide +kernel
theorem dX6_price_14 : decode cX6_price 14 = .ok (.goto 17, 3) := by decide +kernel
theorem dX6_price_17 : decode cX6_price 17 = .ok (.aload_n 0, 1) := by decide +kernel
theorem dX6_price_18 : decode cX6_price 18 = .ok (.getfield 9, 3) := by decide +kernel
theorem dX6_price_21 : decode cX6_price 21 = .ok (.bipush 102, 2) := by decide +kernel
theorem dX6_price_23 : decode cX6_price 23 = .ok (.if_icmp .ne 7, 3) := by decide +kernel
theorem dX6_price_26 : decode cX6_price 26 = .ok (.iconst 2, 1) := by decide +kernel
theorem dX6_price_27 : decode cX6_price 27 = .ok (.goto 4, 3) := by decide +kernel
theorem dX6_price_30 : decode cX6_price 30 = .ok (.iconst 1, 1) := by decide +kernel
theorem dX6_price_31 : decode cX6_price 31 = .ok (.imul, 1) := by decide +kernel
theorem dX6_price_32 : decode cX6_price 32 = .ok (.ireturn, 1) := by decide +kernel
theorem dX7_init_0 : decode cX7_init 0 = .ok (.aload_n 0, 1) := by decide +kernel
theorem dX7_init_1 : decode cX7_init 1 = .ok (.invokespecial 3, 3) := by decide +kernel
theorem dX7_init_4 : decode cX7_init 4 = .ok (.aload_n 0, 1) := by decide +kernel
theorem dX7_init_5 : decode cX7_init 5 = .ok (.new 9, 3) := by decide +kernel
theorem dX7_init_8 : decode cX7_init 8 = .ok (.dup, 1) := by decide +kernel
theorem dX7_init_9 : decode cX7_init 9 = .ok (.invokespecial 11, 3) := by decide +kernel
theorem dX7_init_12 : decode cX7_init 12 = .ok (.putfield 12, 3) := by decide +kernel
theorem dX7_init_15 : decode cX7_init 15 = .ok (.aload_n 0, 1) := by decide +kernel
theorem dX7_init_16 : decode cX7_init 16 = .ok (.new 18, 3) := by decide +kernel
theorem dX7_init_19 : decode cX7_init 19 = .ok (.dup, 1) := by decide +kernel
theorem dX7_init_20 : decode cX7_init 20 = .ok (.invokespecial 20, 3) := by decide +kernel
theorem dX7_init_23 : decode cX7_init 23 = .ok (.putfield 21, 3) := by decide +kernel
theorem dX7_init_26 : decode cX7_init 26 = .ok (.aload_n 0, 1) := by decide +kernel
theorem dX7_init_27 : decode cX7_init 27 = .ok (.new 25, 3) := by decide +kernel
theorem dX7_init_30 : decode cX7_init 30 = .ok (.dup, 1) := by decide +kernel
theorem dX7_init_31 : decode cX7_init 31 = .ok (.invokespecial 27, 3) := by decide +kernel
theorem dX7_init_34 : decode cX7_init 34 = .ok (.putfield 28, 3) := by decide +kernel
theorem dX7_init_37 : decode cX7_init 37 = .ok (.aload_n 0, 1) := by decide +kernel
theorem dX7_init_38 : decode cX7_init 38 = .ok (.new 32, 3) := by decide +kernel
theorem dX7_init_41 : decode cX7_init 41 = .ok (.dup, 1) := by decide +kernel
theorem dX7_init_42 : decode cX7_init 42 = .ok (.invokespecial 34, 3) := by decide +kernel
theorem dX7_init_45 : decode cX7_init 45 = .ok (.putfield 35, 3) := by decide +kernel
theorem dX7_init_48 : decode cX7_init 48 = .ok (.aload_n 0, 1) := by decide +kernel
theorem dX7_init_49 : decode cX7_init 49 = .ok (.bipush 20, 2) := by decide +kernel
theorem dX7_init_51 : decode cX7_init 51 = .ok (.putfield 39, 3) := by decide +kernel
theorem dX7_init_54 : decode cX7_init 54 = .ok (.aload_n 0, 1) := by decide +kernel
theorem dX7_init_55 : decode cX7_init 55 = .ok (.new 43, 3) := by decide +kernel
theorem dX7_init_58 : decode cX7_init 58 = .ok (.dup, 1) := by decide +kernel
theorem dX7_init_59 : decode cX7_init 59 = .ok (.iload_n 1, 1) := by decide +kernel
theorem dX7_init_60 : decode cX7_init 60 = .ok (.iload_n 2, 1) := by decide +kernel
theorem dX7_init_61 : decode cX7_init 61 = .ok (.invokespecial 45, 3) := by decide +kernel
theorem dX7_init_64 : decode cX7_init 64 = .ok (.putfield 48, 3) := by decide +kernel
theorem dX7_init_67 : decode cX7_init 67 = .ok (.return_, 1) := by decide +kernel
theorem dX7_hasSprings_0 : decode cX7_hasSprings 0 = .ok (.aload_n 0, 1) := by decide +kernel
theorem dX7_hasSprings_1 : decode cX7_hasSprings 1 = .ok (.getfield 12, 3) := by decide +kernel
theorem dX7_hasSprings_4 : decode cX7_hasSprings 4 = .ok (.getfield 52, 3) := by decide +kernel
theorem dX7_hasSprings_7 : decode cX7_hasSprings 7 = .ok (.iconst 1, 1) := by decide +kernel
theorem dX7_hasSprings_8 : decode cX7_hasSprings 8 = .ok (.if_icmp .le 7, 3) := by decide +kernel
theorem dX7_hasSprings_11 : decode cX7_hasSprings 11 = .ok (.iconst 1, 1) := by decide +kernel
theorem dX7_hasSprings_12 : decode cX7_hasSprings 12 = .ok (.goto 4, 3) := by decide +kernel
theorem dX7_hasSprings_15 : decode cX7_hasSprings 15 = .ok (.iconst 0, 1) := by decide +kernel
theorem dX7_hasSprings_16 : decode cX7_hasSprings 16 = .ok (.ireturn, 1) := by decide +kernel
theorem dX7_hasCover_0 : decode cX7_hasCover 0 = .ok (.aload_n 0, 1) := by decide +kernel
theorem dX7_hasCover_1 : decode cX7_hasCover 1 = .ok (.getfield 12, 3) := by decide +kernel
theorem dX7_hasCover_4 : decode cX7_hasCover 4 = .ok (.invokevirtual 55, 3) := by decide +kernel
theorem dX7_hasCover_7 : decode cX7_hasCover 7 = .ok (.bipush 99, 2) := by decide +kernel
theorem dX7_hasCover_9 : decode cX7_hasCover 9 = .ok (.if_icmp .ne 7, 3) := by decide +kernel
theorem dX7_hasCover_12 : decode cX7_hasCover 12 = .ok (.iconst 1, 1) := by decide +kernel
theorem dX7_hasCover_13 : decode cX7_hasCover 13 = .ok (.goto 4, 3) := by decide +kernel
theorem dX7_hasCover_16 : decode cX7_hasCover 16 = .ok (.iconst 0, 1) := by decide +kernel
theorem dX7_hasCover_17 : decode cX7_hasCover 17 = .ok (.ireturn, 1) := by decide +kernel
theorem dX7_close_0 : decode cX7_close 0 = .ok (.bipush 10, 2) := by decide +kernel
theorem dX7_close_2 : decode cX7_close 2 = .ok (.aload_n 0, 1) := by decide +kernel
theorem dX7_close_3 : decode cX7_close 3 = .ok (.getfield 48, 3) := by decide +kernel
theorem dX7_close_6 : decode cX7_close 6 = .ok (.getfield 59, 3) := by decide +kernel
theorem dX7_close_9 : decode cX7_close 9 = .ok (.imul, 1) := by decide +kernel
theorem dX7_close_10 : decode cX7_close 10 = .ok (.aload_n 0, 1) := by decide +kernel
theorem dX7_close_11 : decode cX7_close 11 = .ok (.invokevirtual 62, 3) := by decide +kernel
theorem dX7_close_14 : decode cX7_close 14 = .ok (.iadd, 1) := by decide +kernel
theorem dX7_close_15 : decode cX7_close 15 = .ok (.istore_n 3, 1) := by decide +kernel
theorem dX7_close_16 : decode cX7_close 16 = .ok (.aload_n 0, 1) := by decide +kernel
theorem dX7_close_17 : decode cX7_close 17 = .ok (.getfield 35, 3) := by decide +kernel
theorem dX7_close_20 : decode cX7_close 20 = .ok (.aload_n 1, 1) := by decide +kernel
theorem dX7_close_21 : decode cX7_close 21 = .ok (.iload_n 2, 1) := by decide +kernel
theorem dX7_close_22 : decode cX7_close 22 = .ok (.aload_n 0, 1) := by decide +kernel
theorem dX7_close_23 : decode cX7_close 23 = .ok (.getfield 48, 3) := by decide +kernel
theorem dX7_close_26 : decode cX7_close 26 = .ok (.getfield 66, 3) := by decide +kernel
theorem dX7_close_29 : decode cX7_close 29 = .ok (.iload_n 3, 1) := by decide +kernel
theorem dX7_close_30 : decode cX7_close 30 = .ok (.invokevirtual 69, 3) := by decide +kernel
theorem dX7_close_33 : decode cX7_close 33 = .ok (.ifCond .ne 5, 3) := by decide +kernel
theorem dX7_close_36 : decode cX7_close 36 = .ok (.iconst 0, 1) := by decide +kernel
theorem dX7_close_37 : decode cX7_close 37 = .ok (.ireturn, 1) := by decide +kernel
theorem dX7_close_38 : decode cX7_close 38 = .ok (.aload_n 0, 1) := by decide +kernel
theorem dX7_close_39 : decode cX7_close 39 = .ok (.getfield 35, 3) := by decide +kernel
theorem dX7_close_42 : decode cX7_close 42 = .ok (.aload_n 0, 1) := by decide +kernel
theorem dX7_close_43 : decode cX7_close 43 = .ok (.invokevirtual 73, 3) := by decide +kernel
theorem dX7_close_46 : decode cX7_close 46 = .ok (.putfield 76, 3) := by decide +kernel
theorem dX7_close_49 : decode cX7_close 49 = .ok (.aload_n 0, 1) := by decide +kernel
theorem dX7_close_50 : decode cX7_close 50 = .ok (.getfield 35, 3) := by decide +kernel
theorem dX7_close_53 : decode cX7_close 53 = .ok (.iconst 0, 1) := by decide +kernel
theorem dX7_close_54 : decode cX7_close 54 = .ok (.putfield 79, 3) := by decide +kernel
theorem dX7_close_57 : decode cX7_close 57 = .ok (.aload_n 0, 1) := by decide +kernel
theorem dX7_close_58 : decode cX7_close 58 = .ok (.getfield 12, 3) := by decide +kernel
theorem dX7_close_61 : decode cX7_close 61 = .ok (.bipush 99, 2) := by decide +kernel
theorem dX7_close_63 : decode cX7_close 63 = .ok (.invokevirtual 82, 3) := by decide +kernel
theorem dX7_close_66 : decode cX7_close 66 = .ok (.pop, 1) := by decide +kernel
theorem dX7_close_67 : decode cX7_close 67 = .ok (.iconst 1, 1) := by decide +kernel
theorem dX7_close_68 : decode cX7_close 68 = .ok (.ireturn, 1) := by decide +kernel
theorem dX7_topOf_0 : decode cX7_topOf 0 = .ok (.iconst 0, 1) := by decide +kernel
theorem dX7_topOf_1 : decode cX7_topOf 1 = .ok (.aload_n 0, 1) := by decide +kernel
theorem dX7_topOf_2 : decode cX7_topOf 2 = .ok (.getfield 48, 3) := by decide +kernel
theorem dX7_topOf_5 : decode cX7_topOf 5 = .ok (.iload_n 1, 1) := by decide +kernel
theorem dX7_topOf_6 : decode cX7_topOf 6 = .ok (.invokevirtual 111, 3) := by decide +kernel
theorem dX7_topOf_9 : decode cX7_topOf 9 = .ok (.aload_n 0, 1) := by decide +kernel
theorem dX7_topOf_10 : decode cX7_topOf 10 = .ok (.getfield 21, 3) := by decide +kernel
theorem dX7_topOf_13 : decode cX7_topOf 13 = .ok (.invokevirtual 115, 3) := by decide +kernel
theorem dX7_topOf_16 : decode cX7_topOf 16 = .ok (.iadd, 1) := by decide +kernel
theorem dX7_topOf_17 : decode cX7_topOf 17 = .ok (.aload_n 0, 1) := by decide +kernel
theorem dX7_topOf_18 : decode cX7_topOf 18 = .ok (.getfield 28, 3) := by decide +kernel
theorem dX7_topOf_21 : decode cX7_topOf 21 = .ok (.iload_n 1, 1) := by decide +kernel
theorem dX7_topOf_22 : decode cX7_topOf 22 = .ok (.invokevirtual 118, 3) := by decide +kernel
theorem dX7_topOf_25 : decode cX7_topOf 25 = .ok (.isub, 1) := by decide +kernel
theorem dX7_topOf_26 : decode cX7_topOf 26 = .ok (.invokestatic 121, 3) := by decide +kernel
theorem dX7_topOf_29 : decode cX7_topOf 29 = .ok (.ireturn, 1) := by decide +kernel
theorem dX7_topsInAll_0 : decode cX7_topsInAll 0 = .ok (.iconst 0, 1) := by decide +kernel
theorem dX7_topsInAll_1 : decode cX7_topsInAll 1 = .ok (.istore_n 1, 1) := by decide +kernel
theorem dX7_topsInAll_2 : decode cX7_topsInAll 2 = .ok (.iconst 0, 1) := by decide +kernel
theorem dX7_topsInAll_3 : decode cX7_topsInAll 3 = .ok (.istore_n 2, 1) := by decide +kernel
theorem dX7_topsInAll_4 : decode cX7_topsInAll 4 = .ok (.iload_n 2, 1) := by decide +kernel
theorem dX7_topsInAll_5 : decode cX7_topsInAll 5 = .ok (.aload_n 0, 1) := by decide +kernel
theorem dX7_topsInAll_6 : decode cX7_topsInAll 6 = .ok (.getfield 48, 3) := by decide +kernel
theorem dX7_topsInAll_9 : decode cX7_topsInAll 9 = .ok (.invokevirtual 127, 3) := by decide +kernel
theorem dX7_topsInAll_12 : decode cX7_topsInAll 12 = .ok (.if_icmp .ge 24, 3) := by decide +kernel
theorem dX7_topsInAll_15 : decode cX7_topsInAll 15 = .ok (.iload_n 1, 1) := by decide +kernel
theorem dX7_topsInAll_16 : decode cX7_topsInAll 16 = .ok (.aload_n 0, 1) := by decide +kernel
theorem dX7_topsInAll_17 : decode cX7_topsInAll 17 = .ok (.aload_n 0, 1) := by decide +kernel
theorem dX7_topsInAll_18 : decode cX7_topsInAll 18 = .ok (.getfield 48, 3) := by decide +kernel
theorem dX7_topsInAll_21 : decode cX7_topsInAll 21 = .ok (.iload_n 2, 1) := by decide +kernel
theorem dX7_topsInAll_22 : decode cX7_topsInAll 22 = .ok (.invokevirtual 130, 3) := by decide +kernel
theorem dX7_topsInAll_25 : decode cX7_topsInAll 25 = .ok (.invokevirtual 133, 3) := by decide +kernel
theorem dX7_topsInAll_28 : decode cX7_topsInAll 28 = .ok (.iadd, 1) := by decide +kernel
theorem dX7_topsInAll_29 : decode cX7_topsInAll 29 = .ok (.istore_n 1, 1) := by decide +kernel
theorem dX7_topsInAll_30 : decode cX7_topsInAll 30 = .ok (.iinc 2 1, 3) := by decide +kernel
theorem dX7_topsInAll_33 : decode cX7_topsInAll 33 = .ok (.goto (-29), 3) := by decide +kernel
theorem dX7_topsInAll_36 : decode cX7_topsInAll 36 = .ok (.iload_n 1, 1) := by decide +kernel
theorem dX7_topsInAll_37 : decode cX7_topsInAll 37 = .ok (.ireturn, 1) := by decide +kernel
theorem dX7_greatestTop_0 : decode cX7_greatestTop 0 = .ok (.iconst 0, 1) := by decide +kernel
theorem dX7_greatestTop_1 : decode cX7_greatestTop 1 = .ok (.istore_n 1, 1) := by decide +kernel
theorem dX7_greatestTop_2 : decode cX7_greatestTop 2 = .ok (.iconst 0, 1) := by decide +kernel
theorem dX7_greatestTop_3 : decode cX7_greatestTop 3 = .ok (.istore_n 2, 1) := by decide +kernel
theorem dX7_greatestTop_4 : decode cX7_greatestTop 4 = .ok (.iload_n 2, 1) := by decide +kernel
theorem dX7_greatestTop_5 : decode cX7_greatestTop 5 = .ok (.aload_n 0, 1) := by decide +kernel
theorem dX7_greatestTop_6 : decode cX7_greatestTop 6 = .ok (.getfield 48, 3) := by decide +kernel
theorem dX7_greatestTop_9 : decode cX7_greatestTop 9 = .ok (.invokevirtual 127, 3) := by decide +kernel
theorem dX7_greatestTop_12 : decode cX7_greatestTop 12 = .ok (.if_icmp .ge 26, 3) := by decide +kernel
theorem dX7_greatestTop_15 : decode cX7_greatestTop 15 = .ok (.iload_n 1, 1) := by decide +kernel
theorem dX7_greatestTop_16 : decode cX7_greatestTop 16 = .ok (.aload_n 0, 1) := by decide +kernel
theorem dX7_greatestTop_17 : decode cX7_greatestTop 17 = .ok (.aload_n 0, 1) := by decide +kernel
theorem dX7_greatestTop_18 : decode cX7_greatestTop 18 = .ok (.getfield 48, 3) := by decide +kernel
theorem dX7_greatestTop_21 : decode cX7_greatestTop 21 = .ok (.iload_n 2, 1) := by decide +kernel
theorem dX7_greatestTop_22 : decode cX7_greatestTop 22 = .ok (.invokevirtual 130, 3) := by decide +kernel
theorem dX7_greatestTop_25 : decode cX7_greatestTop 25 = .ok (.invokevirtual 133, 3) := by decide +kernel
theorem dX7_greatestTop_28 : decode cX7_greatestTop 28 = .ok (.invokestatic 121, 3) := by decide +kernel
theorem dX7_greatestTop_31 : decode cX7_greatestTop 31 = .ok (.istore_n 1, 1) := by decide +kernel
theorem dX7_greatestTop_32 : decode cX7_greatestTop 32 = .ok (.iinc 2 1, 3) := by decide +kernel
theorem dX7_greatestTop_35 : decode cX7_greatestTop 35 = .ok (.goto (-31), 3) := by decide +kernel
theorem dX7_greatestTop_38 : decode cX7_greatestTop 38 = .ok (.iload_n 1, 1) := by decide +kernel
theorem dX7_greatestTop_39 : decode cX7_greatestTop 39 = .ok (.ireturn, 1) := by decide +kernel
theorem dX7_hasSoundTops_0 : decode cX7_hasSoundTops 0 = .ok (.iconst 0, 1) := by decide +kernel
theorem dX7_hasSoundTops_1 : decode cX7_hasSoundTops 1 = .ok (.istore_n 1, 1) := by decide +kernel
theorem dX7_hasSoundTops_2 : decode cX7_hasSoundTops 2 = .ok (.iload_n 1, 1) := by decide +kernel
theorem dX7_hasSoundTops_3 : decode cX7_hasSoundTops 3 = .ok (.aload_n 0, 1) := by decide +kernel
theorem dX7_hasSoundTops_4 : decode cX7_hasSoundTops 4 = .ok (.getfield 48, 3) := by decide +kernel
theorem dX7_hasSoundTops_7 : decode cX7_hasSoundTops 7 = .ok (.invokevirtual 127, 3) := by decide +kernel
theorem dX7_hasSoundTops_10 : decode cX7_hasSoundTops 10 = .ok (.if_icmp .ge 26, 3) := by decide +kernel
theorem dX7_hasSoundTops_13 : decode cX7_hasSoundTops 13 = .ok (.aload_n 0, 1) := by decide +kernel
theorem dX7_hasSoundTops_14 : decode cX7_hasSoundTops 14 = .ok (.aload_n 0, 1) := by decide +kernel
theorem dX7_hasSoundTops_15 : decode cX7_hasSoundTops 15 = .ok (.getfield 48, 3) := by decide +kernel
theorem dX7_hasSoundTops_18 : decode cX7_hasSoundTops 18 = .ok (.iload_n 1, 1) := by decide +kernel
theorem dX7_hasSoundTops_19 : decode cX7_hasSoundTops 19 = .ok (.invokevirtual 130, 3) := by decide +kernel
theorem dX7_hasSoundTops_22 : decode cX7_hasSoundTops 22 = .ok (.invokevirtual 133, 3) := by decide +kernel
theorem dX7_hasSoundTops_25 : decode cX7_hasSoundTops 25 = .ok (.ifCond .ge 5, 3) := by decide +kernel
theorem dX7_hasSoundTops_28 : decode cX7_hasSoundTops 28 = .ok (.iconst 0, 1) := by decide +kernel
theorem dX7_hasSoundTops_29 : decode cX7_hasSoundTops 29 = .ok (.ireturn, 1) := by decide +kernel
theorem dX7_hasSoundTops_30 : decode cX7_hasSoundTops 30 = .ok (.iinc 1 1, 3) := by decide +kernel
theorem dX7_hasSoundTops_33 : decode cX7_hasSoundTops 33 = .ok (.goto (-31), 3) := by decide +kernel
theorem dX7_hasSoundTops_36 : decode cX7_hasSoundTops 36 = .ok (.iconst 1, 1) := by decide +kernel
theorem dX7_hasSoundTops_37 : decode cX7_hasSoundTops 37 = .ok (.ireturn, 1) := by decide +kernel
theorem dX7_buttonCount_0 : decode cX7_buttonCount 0 = .ok (.iconst 0, 1) := by decide +kernel
theorem dX7_buttonCount_1 : decode cX7_buttonCount 1 = .ok (.istore_n 1, 1) := by decide +kernel
theorem dX7_buttonCount_2 : decode cX7_buttonCount 2 = .ok (.iconst 0, 1) := by decide +kernel
theorem dX7_buttonCount_3 : decode cX7_buttonCount 3 = .ok (.istore_n 2, 1) := by decide +kernel
theorem dX7_buttonCount_4 : decode cX7_buttonCount 4 = .ok (.iload_n 2, 1) := by decide +kernel
theorem dX7_buttonCount_5 : decode cX7_buttonCount 5 = .ok (.aload_n 0, 1) := by decide +kernel
theorem dX7_buttonCount_6 : decode cX7_buttonCount 6 = .ok (.getfield 48, 3) := by decide +kernel
theorem dX7_buttonCount_9 : decode cX7_buttonCount 9 = .ok (.invokevirtual 127, 3) := by decide +kernel
theorem dX7_buttonCount_12 : decode cX7_buttonCount 12 = .ok (.if_icmp .ge 30, 3) := by decide +kernel
theorem dX7_buttonCount_15 : decode cX7_buttonCount 15 = .ok (.aload_n 0, 1) := by decide +kernel
theorem dX7_buttonCount_16 : decode cX7_buttonCount 16 = .ok (.getfield 28, 3) := by decide +kernel
theorem dX7_buttonCount_19 : decode cX7_buttonCount 19 = .ok (.aload_n 0, 1) := by decide +kernel
theorem dX7_buttonCount_20 : decode cX7_buttonCount 20 = .ok (.getfield 48, 3) := by decide +kernel
theorem dX7_buttonCount_23 : decode cX7_buttonCount 23 = .ok (.iload_n 2, 1) := by decide +kernel
theorem dX7_buttonCount_24 : decode cX7_buttonCount 24 = .ok (.invokevirtual 130, 3) := by decide +kernel
theorem dX7_buttonCount_27 : decode cX7_buttonCount 27 = .ok (.invokevirtual 118, 3) := by decide +kernel
theorem dX7_buttonCount_30 : decode cX7_buttonCount 30 = .ok (.ifCond .le 6, 3) := by decide +kernel
theorem dX7_buttonCount_33 : decode cX7_buttonCount 33 = .ok (.iinc 1 1, 3) := by decide +kernel
theorem dX7_buttonCount_36 : decode cX7_buttonCount 36 = .ok (.iinc 2 1, 3) := by decide +kernel
theorem dX7_buttonCount_39 : decode cX7_buttonCount 39 = .ok (.goto (-35), 3) := by decide +kernel
theorem dX7_buttonCount_42 : decode cX7_buttonCount 42 = .ok (.iload_n 1, 1) := by decide +kernel
theorem dX7_buttonCount_43 : decode cX7_buttonCount 43 = .ok (.ireturn, 1) := by decide +kernel
theorem dX7_foldCount_0 : decode cX7_foldCount 0 = .ok (.iconst 0, 1) := by decide +kernel
theorem dX7_foldCount_1 : decode cX7_foldCount 1 = .ok (.istore_n 2, 1) := by decide +kernel
theorem dX7_foldCount_2 : decode cX7_foldCount 2 = .ok (.iconst 0, 1) := by decide +kernel
theorem dX7_foldCount_3 : decode cX7_foldCount 3 = .ok (.istore_n 3, 1) := by decide +kernel
theorem dX7_foldCount_4 : decode cX7_foldCount 4 = .ok (.iload_n 3, 1) := by decide +kernel
theorem dX7_foldCount_5 : decode cX7_foldCount 5 = .ok (.aload_n 0, 1) := by decide +kernel
theorem dX7_foldCount_6 : decode cX7_foldCount 6 = .ok (.getfield 48, 3) := by decide +kernel
theorem dX7_foldCount_9 : decode cX7_foldCount 9 = .ok (.invokevirtual 127, 3) := by decide +kernel
theorem dX7_foldCount_12 : decode cX7_foldCount 12 = .ok (.if_icmp .ge 53, 3) := by decide +kernel
theorem dX7_foldCount_15 : decode cX7_foldCount 15 = .ok (.aload_n 0, 1) := by decide +kernel
theorem dX7_foldCount_16 : decode cX7_foldCount 16 = .ok (.getfield 48, 3) := by decide +kernel
theorem dX7_foldCount_19 : decode cX7_foldCount 19 = .ok (.iload_n 3, 1) := by decide +kernel
theorem dX7_foldCount_20 : decode cX7_foldCount 20 = .ok (.invokevirtual 130, 3) := by decide +kernel
theorem dX7_foldCount_23 : decode cX7_foldCount 23 = .ok (.istore 4, 2) := by decide +kernel
theorem dX7_foldCount_25 : decode cX7_foldCount 25 = .ok (.iload_n 2, 1) := by decide +kernel
theorem dX7_foldCount_26 : decode cX7_foldCount 26 = .ok (.aload_n 0, 1) := by decide +kernel
theorem dX7_foldCount_27 : decode cX7_foldCount 27 = .ok (.iload 4, 2) := by decide +kernel
theorem dX7_foldCount_29 : decode cX7_foldCount 29 = .ok (.iload 4, 2) := by decide +kernel
theorem dX7_foldCount_31 : decode cX7_foldCount 31 = .ok (.bipush 10, 2) := by decide +kernel
theorem dX7_foldCount_33 : decode cX7_foldCount 33 = .ok (.iadd, 1) := by decide +kernel
theorem dX7_foldCount_34 : decode cX7_foldCount 34 = .ok (.iconst 1, 1) := by decide +kernel
theorem dX7_foldCount_35 : decode cX7_foldCount 35 = .ok (.isub, 1) := by decide +kernel
theorem dX7_foldCount_36 : decode cX7_foldCount 36 = .ok (.iload_n 1, 1) := by decide +kernel
theorem dX7_foldCount_37 : decode cX7_foldCount 37 = .ok (.invokevirtual 136, 3) := by decide +kernel
theorem dX7_foldCount_40 : decode cX7_foldCount 40 = .ok (.iadd, 1) := by decide +kernel
theorem dX7_foldCount_41 : decode cX7_foldCount 41 = .ok (.istore_n 2, 1) := by decide +kernel
theorem dX7_foldCount_42 : decode cX7_foldCount 42 = .ok (.iload_n 2, 1) := by decide +kernel
theorem dX7_foldCount_43 : decode cX7_foldCount 43 = .ok (.aload_n 0, 1) := by decide +kernel
theorem dX7_foldCount_44 : decode cX7_foldCount 44 = .ok (.iload 4, 2) := by decide +kernel
theorem dX7_foldCount_46 : decode cX7_foldCount 46 = .ok (.iload 4, 2) := by decide +kernel
theorem dX7_foldCount_48 : decode cX7_foldCount 48 = .ok (.bipush 10, 2) := by decide +kernel
theorem dX7_foldCount_50 : decode cX7_foldCount 50 = .ok (.iadd, 1) := by decide +kernel
theorem dX7_foldCount_51 : decode cX7_foldCount 51 = .ok (.iconst 1, 1) := by decide +kernel
theorem dX7_foldCount_52 : decode cX7_foldCount 52 = .ok (.iadd, 1) := by decide +kernel
theorem dX7_foldCount_53 : decode cX7_foldCount 53 = .ok (.iload_n 1, 1) := by decide +kernel
theorem dX7_foldCount_54 : decode cX7_foldCount 54 = .ok (.invokevirtual 136, 3) := by decide +kernel
theorem dX7_foldCount_57 : decode cX7_foldCount 57 = .ok (.iadd, 1) := by decide +kernel
theorem dX7_foldCount_58 : decode cX7_foldCount 58 = .ok (.istore_n 2, 1) := by decide +kernel
theorem dX7_foldCount_59 : decode cX7_foldCount 59 = .ok (.iinc 3 1, 3) := by decide +kernel
theorem dX7_foldCount_62 : decode cX7_foldCount 62 = .ok (.goto (-58), 3) := by decide +kernel
theorem dX7_foldCount_65 : decode cX7_foldCount 65 = .ok (.iload_n 2, 1) := by decide +kernel
theorem dX7_foldCount_66 : decode cX7_foldCount 66 = .ok (.ireturn, 1) := by decide +kernel
theorem dX7_foldBetween_0 : decode cX7_foldBetween 0 = .ok (.aload_n 0, 1) := by decide +kernel
theorem dX7_foldBetween_1 : decode cX7_foldBetween 1 = .ok (.getfield 28, 3) := by decide +kernel
theorem dX7_foldBetween_4 : decode cX7_foldBetween 4 = .ok (.iload_n 1, 1) := by decide +kernel
theorem dX7_foldBetween_5 : decode cX7_foldBetween 5 = .ok (.invokevirtual 118, 3) := by decide +kernel
theorem dX7_foldBetween_8 : decode cX7_foldBetween 8 = .ok (.istore 4, 2) := by decide +kernel
theorem dX7_foldBetween_10 : decode cX7_foldBetween 10 = .ok (.aload_n 0, 1) := by decide +kernel
theorem dX7_foldBetween_11 : decode cX7_foldBetween 11 = .ok (.getfield 28, 3) := by decide +kernel
theorem dX7_foldBetween_14 : decode cX7_foldBetween 14 = .ok (.iload_n 2, 1) := by decide +kernel
theorem dX7_foldBetween_15 : decode cX7_foldBetween 15 = .ok (.invokevirtual 118, 3) := by decide +kernel
theorem dX7_foldBetween_18 : decode cX7_foldBetween 18 = .ok (.istore 5, 2) := by decide +kernel
theorem dX7_foldBetween_20 : decode cX7_foldBetween 20 = .ok (.iload 4, 2) := by decide +kernel
theorem dX7_foldBetween_22 : decode cX7_foldBetween 22 = .ok (.ifCond .le 12, 3) := by decide +kernel
theorem dX7_foldBetween_25 : decode cX7_foldBetween 25 = .ok (.iload 5, 2) := by decide +kernel
theorem dX7_foldBetween_27 : decode cX7_foldBetween 27 = .ok (.ifCond .le 7, 3) := by decide +kernel
theorem dX7_foldBetween_30 : decode cX7_foldBetween 30 = .ok (.iconst 1, 1) := by decide +kernel
theorem dX7_foldBetween_31 : decode cX7_foldBetween 31 = .ok (.goto 4, 3) := by decide +kernel
theorem dX7_foldBetween_34 : decode cX7_foldBetween 34 = .ok (.iconst 0, 1) := by decide +kernel
theorem dX7_foldBetween_35 : decode cX7_foldBetween 35 = .ok (.istore 6, 2) := by decide +kernel
theorem dX7_foldBetween_37 : decode cX7_foldBetween 37 = .ok (.iload 6, 2) := by decide +kernel
theorem dX7_foldBetween_39 : decode cX7_foldBetween 39 = .ok (.ifCond .eq 23, 3) := by decide +kernel
theorem dX7_foldBetween_42 : decode cX7_foldBetween 42 = .ok (.iload_n 3, 1) := by decide +kernel
theorem dX7_foldBetween_43 : decode cX7_foldBetween 43 = .ok (.ifCond .eq 15, 3) := by decide +kernel
theorem dX7_foldBetween_46 : decode cX7_foldBetween 46 = .ok (.iload 4, 2) := by decide +kernel
theorem dX7_foldBetween_48 : decode cX7_foldBetween 48 = .ok (.iload 5, 2) := by decide +kernel
theorem dX7_foldBetween_50 : decode cX7_foldBetween 50 = .ok (.isub, 1) := by decide +kernel
theorem dX7_foldBetween_51 : decode cX7_foldBetween 51 = .ok (.invokestatic 140, 3) := by decide +kernel
theorem dX7_foldBetween_54 : decode cX7_foldBetween 54 = .ok (.iconst 3, 1) := by decide +kernel
theorem dX7_foldBetween_55 : decode cX7_foldBetween 55 = .ok (.if_icmp .gt 7, 3) := by decide +kernel
theorem dX7_foldBetween_58 : decode cX7_foldBetween 58 = .ok (.iconst 1, 1) := by decide +kernel
theorem dX7_foldBetween_59 : decode cX7_foldBetween 59 = .ok (.goto 4, 3) := by decide +kernel
theorem dX7_foldBetween_62 : decode cX7_foldBetween 62 = .ok (.iconst 0, 1) := by decide +kernel
theorem dX7_foldBetween_63 : decode cX7_foldBetween 63 = .ok (.ireturn, 1) := by decide +kernel
theorem dX7_wear_0 : decode cX7_wear 0 = .ok (.aload_n 0, 1) := by decide +kernel
theorem dX7_wear_1 : decode cX7_wear 1 = .ok (.invokevirtual 73, 3) := by decide +kernel
theorem dX7_wear_4 : decode cX7_wear 4 = .ok (.istore_n 2, 1) := by decide +kernel
theorem dX7_wear_5 : decode cX7_wear 5 = .ok (.aload_n 0, 1) := by decide +kernel
theorem dX7_wear_6 : decode cX7_wear 6 = .ok (.getfield 35, 3) := by decide +kernel
theorem dX7_wear_9 : decode cX7_wear 9 = .ok (.dup, 1) := by decide +kernel
theorem dX7_wear_10 : decode cX7_wear 10 = .ok (.getfield 79, 3) := by decide +kernel
theorem dX7_wear_13 : decode cX7_wear 13 = .ok (.iload_n 1, 1) := by decide +kernel
theorem dX7_wear_14 : decode cX7_wear 14 = .ok (.iadd, 1) := by decide +kernel
theorem dX7_wear_15 : decode cX7_wear 15 = .ok (.putfield 79, 3) := by decide +kernel
theorem dX7_wear_18 : decode cX7_wear 18 = .ok (.aload_n 0, 1) := by decide +kernel
theorem dX7_wear_19 : decode cX7_wear 19 = .ok (.getfield 21, 3) := by decide +kernel
theorem dX7_wear_22 : decode cX7_wear 22 = .ok (.iload_n 1, 1) := by decide +kernel
theorem dX7_wear_23 : decode cX7_wear 23 = .ok (.invokevirtual 143, 3) := by decide +kernel
theorem dX7_wear_26 : decode cX7_wear 26 = .ok (.iload_n 2, 1) := by decide +kernel
theorem dX7_wear_27 : decode cX7_wear 27 = .ok (.aload_n 0, 1) := by decide +kernel
theorem dX7_wear_28 : decode cX7_wear 28 = .ok (.invokevirtual 73, 3) := by decide +kernel
theorem dX7_wear_31 : decode cX7_wear 31 = .ok (.isub, 1) := by decide +kernel
theorem dX7_wear_32 : decode cX7_wear 32 = .ok (.ireturn, 1) := by decide +kernel
theorem dX7_price_0 : decode cX7_price 0 = .ok (.aload_n 0, 1) := by decide +kernel
theorem dX7_price_1 : decode cX7_price 1 = .ok (.invokevirtual 147, 3) := by decide +kernel
theorem dX7_price_4 : decode cX7_price 4 = .ok (.ifCond .eq 13, 3) := by decide +kernel
theorem dX7_price_7 : decode cX7_price 7 = .ok (.aload_n 0, 1) := by decide +kernel
theorem dX7_price_8 : decode cX7_price 8 = .ok (.getfield 48, 3) := by decide +kernel
theorem dX7_price_11 : decode cX7_price 11 = .ok (.invokevirtual 127, 3) := by decide +kernel
theorem dX7_price_14 : decode cX7_price 14 = .ok (.goto 4, 3) := by decide +kernel
theorem dX7_price_17 : decode cX7_price 17 = .ok (.iconst 0, 1) := by decide +kernel
theorem dX7_price_18 : decode cX7_price 18 = .ok (.istore_n 1, 1) := by decide +kernel
theorem dX7_price_19 : decode cX7_price 19 = .ok (.iconst 5, 1) := by decide +kernel
theorem dX7_price_20 : decode cX7_price 20 = .ok (.iload_n 1, 1) := by decide +kernel
theorem dX7_price_21 : decode cX7_price 21 = .ok (.imul, 1) := by decide +kernel
theorem dX7_price_22 : decode cX7_price 22 = .ok (.iconst 2, 1) := by decide +kernel
theorem dX7_price_23 : decode cX7_price 23 = .ok (.aload_n 0, 1) := by decide +kernel
theorem dX7_price_24 : decode cX7_price 24 = .ok (.getfield 48, 3) := by decide +kernel
theorem dX7_price_27 : decode cX7_price 27 = .ok (.invokevirtual 151, 3) := by decide +kernel
theorem dX7_price_30 : decode cX7_price 30 = .ok (.imul, 1) := by decide +kernel
theorem dX7_price_31 : decode cX7_price 31 = .ok (.iadd, 1) := by decide +kernel
theorem dX7_price_32 : decode cX7_price 32 = .ok (.aload_n 0, 1) := by decide +kernel
theorem dX7_price_33 : decode cX7_price 33 = .ok (.getfield 21, 3) := by decide +kernel
theorem dX7_price_36 : decode cX7_price 36 = .ok (.invokevirtual 154, 3) := by decide +kernel
theorem dX7_price_39 : decode cX7_price 39 = .ok (.iadd, 1) := by decide +kernel
theorem dX7_price_40 : decode cX7_price 40 = .ok (.iconst 4, 1) := by decide +kernel
theorem dX7_price_41 : decode cX7_price 41 = .ok (.aload_n 0, 1) := by decide +kernel
theorem dX7_price_42 : decode cX7_price 42 = .ok (.invokevirtual 157, 3) := by decide +kernel
theorem dX7_price_45 : decode cX7_price 45 = .ok (.imul, 1) := by decide +kernel
theorem dX7_price_46 : decode cX7_price 46 = .ok (.iadd, 1) := by decide +kernel
theorem dX7_price_47 : decode cX7_price 47 = .ok (.aload_n 0, 1) := by decide +kernel
theorem dX7_price_48 : decode cX7_price 48 = .ok (.getfield 35, 3) := by decide +kernel
theorem dX7_price_51 : decode cX7_price 51 = .ok (.invokevirtual 160, 3) := by decide +kernel
theorem dX7_price_54 : decode cX7_price 54 = .ok (.iadd, 1) := by decide +kernel
theorem dX7_price_55 : decode cX7_price 55 = .ok (.ireturn, 1) := by decide +kernel
theorem dX7_tellSinking_0 : decode cX7_tellSinking 0 = .ok (.aload_n 2, 1) := by decide +kernel
theorem dX7_tellSinking_1 : decode cX7_tellSinking 1 = .ok (.invokevirtual 96, 3) := by decide +kernel
theorem dX7_tellSinking_4 : decode cX7_tellSinking 4 = .ok (.aload_n 0, 1) := by decide +kernel
theorem dX7_tellSinking_5 : decode cX7_tellSinking 5 = .ok (.getfield 48, 3) := by decide +kernel
theorem dX7_tellSinking_8 : decode cX7_tellSinking 8 = .ok (.invokevirtual 127, 3) := by decide +kernel
theorem dX7_tellSinking_11 : decode cX7_tellSinking 11 = .ok (.istore_n 3, 1) := by decide +kernel
theorem dX7_tellSinking_12 : decode cX7_tellSinking 12 = .ok (.iconst 0, 1) := by decide +kernel
theorem dX7_tellSinking_13 : decode cX7_tellSinking 13 = .ok (.istore 4, 2) := by decide +kernel
theorem dX7_tellSinking_15 : decode cX7_tellSinking 15 = .ok (.iload 4, 2) := by decide +kernel
theorem dX7_tellSinking_17 : decode cX7_tellSinking 17 = .ok (.iload_n 3, 1) := by decide +kernel
theorem dX7_tellSinking_18 : decode cX7_tellSinking 18 = .ok (.if_icmp .ge 89, 3) := by decide +kernel
theorem dX7_tellSinking_21 : decode cX7_tellSinking 21 = .ok (.aload_n 0, 1) := by decide +kernel
theorem dX7_tellSinking_22 : decode cX7_tellSinking 22 = .ok (.getfield 48, 3) := by decide +kernel
theorem dX7_tellSinking_25 : decode cX7_tellSinking 25 = .ok (.iload 4, 2) := by decide +kernel
theorem dX7_tellSinking_27 : decode cX7_tellSinking 27 = .ok (.invokevirtual 130, 3) := by decide +kernel
theorem dX7_tellSinking_30 : decode cX7_tellSinking 30 = .ok (.istore 5, 2) := by decide +kernel
theorem dX7_tellSinking_32 : decode cX7_tellSinking 32 = .ok (.aload_n 1, 1) := by decide +kernel
theorem dX7_tellSinking_33 : decode cX7_tellSinking 33 = .ok (.iload 5, 2) := by decide +kernel
theorem dX7_tellSinking_35 : decode cX7_tellSinking 35 = .ok (.invokevirtual 118, 3) := by decide +kernel
theorem dX7_tellSinking_38 : decode cX7_tellSinking 38 = .ok (.istore 6, 2) := by decide +kernel
theorem dX7_tellSinking_40 : decode cX7_tellSinking 40 = .ok (.aload_n 0, 1) := by decide +kernel
theorem dX7_tellSinking_41 : decode cX7_tellSinking 41 = .ok (.getfield 48, 3) := by decide +kernel
theorem dX7_tellSinking_44 : decode cX7_tellSinking 44 = .ok (.iload 6, 2) := by decide +kernel
theorem dX7_tellSinking_46 : decode cX7_tellSinking 46 = .ok (.iload 5, 2) := by decide +kernel
theorem dX7_tellSinking_48 : decode cX7_tellSinking 48 = .ok (.invokevirtual 163, 3) := by decide +kernel
theorem dX7_tellSinking_51 : decode cX7_tellSinking 51 = .ok (.aload_n 0, 1) := by decide +kernel
theorem dX7_tellSinking_52 : decode cX7_tellSinking 52 = .ok (.getfield 21, 3) := by decide +kernel
theorem dX7_tellSinking_55 : decode cX7_tellSinking 55 = .ok (.iload 6, 2) := by decide +kernel
theorem dX7_tellSinking_57 : decode cX7_tellSinking 57 = .ok (.invokevirtual 166, 3) := by decide +kernel
theorem dX7_tellSinking_60 : decode cX7_tellSinking 60 = .ok (.iadd, 1) := by decide +kernel
theorem dX7_tellSinking_61 : decode cX7_tellSinking 61 = .ok (.istore 7, 2) := by decide +kernel
theorem dX7_tellSinking_63 : decode cX7_tellSinking 63 = .ok (.aload_n 2, 1) := by decide +kernel
theorem dX7_tellSinking_64 : decode cX7_tellSinking 64 = .ok (.iload 5, 2) := by decide +kernel
theorem dX7_tellSinking_66 : decode cX7_tellSinking 66 = .ok (.bipush 10, 2) := by decide +kernel
theorem dX7_tellSinking_68 : decode cX7_tellSinking 68 = .ok (.isub, 1) := by decide +kernel
theorem dX7_tellSinking_69 : decode cX7_tellSinking 69 = .ok (.invokevirtual 118, 3) := by decide +kernel
theorem dX7_tellSinking_72 : decode cX7_tellSinking 72 = .ok (.aload_n 2, 1) := by decide +kernel
theorem dX7_tellSinking_73 : decode cX7_tellSinking 73 = .ok (.iload 5, 2) := by decide +kernel
theorem dX7_tellSinking_75 : decode cX7_tellSinking 75 = .ok (.iconst 1, 1) := by decide +kernel
theorem dX7_tellSinking_76 : decode cX7_tellSinking 76 = .ok (.isub, 1) := by decide +kernel
theorem dX7_tellSinking_77 : decode cX7_tellSinking 77 = .ok (.invokevirtual 118, 3) := by decide +kernel
theorem dX7_tellSinking_80 : decode cX7_tellSinking 80 = .ok (.invokestatic 121, 3) := by decide +kernel
theorem dX7_tellSinking_83 : decode cX7_tellSinking 83 = .ok (.istore 8, 2) := by decide +kernel
theorem dX7_tellSinking_85 : decode cX7_tellSinking 85 = .ok (.aload_n 2, 1) := by decide +kernel
theorem dX7_tellSinking_86 : decode cX7_tellSinking 86 = .ok (.iload 5, 2) := by decide +kernel
theorem dX7_tellSinking_88 : decode cX7_tellSinking 88 = .ok (.iload 7, 2) := by decide +kernel
theorem dX7_tellSinking_90 : decode cX7_tellSinking 90 = .ok (.iload 8, 2) := by decide +kernel
theorem dX7_tellSinking_92 : decode cX7_tellSinking 92 = .ok (.bipush 8, 2) := by decide +kernel
theorem dX7_tellSinking_94 : decode cX7_tellSinking 94 = .ok (.isub, 1) := by decide +kernel
theorem dX7_tellSinking_95 : decode cX7_tellSinking 95 = .ok (.invokestatic 121, 3) := by decide +kernel
theorem dX7_tellSinking_98 : decode cX7_tellSinking 98 = .ok (.invokevirtual 168, 3) := by decide +kernel
theorem dX7_tellSinking_101 : decode cX7_tellSinking 101 = .ok (.iinc 4 1, 3) := by decide +kernel
theorem dX7_tellSinking_104 : decode cX7_tellSinking 104 = .ok (.goto (-89), 3) := by decide +kernel
theorem dX7_tellSinking_107 : decode cX7_tellSinking 107 = .ok (.iload_n 3, 1) := by decide +kernel
theorem dX7_tellSinking_108 : decode cX7_tellSinking 108 = .ok (.iconst 1, 1) := by decide +kernel
theorem dX7_tellSinking_109 : decode cX7_tellSinking 109 = .ok (.isub, 1) := by decide +kernel
theorem dX7_tellSinking_110 : decode cX7_tellSinking 110 = .ok (.istore 4, 2) := by decide +kernel
theorem dX7_tellSinking_112 : decode cX7_tellSinking 112 = .ok (.iload 4, 2) := by decide +kernel
theorem dX7_tellSinking_114 : decode cX7_tellSinking 114 = .ok (.ifCond .lt 62, 3) := by decide +kernel
theorem dX7_tellSinking_117 : decode cX7_tellSinking 117 = .ok (.aload_n 0, 1) := by decide +kernel
theorem dX7_tellSinking_118 : decode cX7_tellSinking 118 = .ok (.getfield 48, 3) := by decide +kernel
theorem dX7_tellSinking_121 : decode cX7_tellSinking 121 = .ok (.iload 4, 2) := by decide +kernel
theorem dX7_tellSinking_123 : decode cX7_tellSinking 123 = .ok (.invokevirtual 130, 3) := by decide +kernel
theorem dX7_tellSinking_126 : decode cX7_tellSinking 126 = .ok (.istore 5, 2) := by decide +kernel
theorem dX7_tellSinking_128 : decode cX7_tellSinking 128 = .ok (.aload_n 2, 1) := by decide +kernel
theorem dX7_tellSinking_129 : decode cX7_tellSinking 129 = .ok (.iload 5, 2) := by decide +kernel
theorem dX7_tellSinking_131 : decode cX7_tellSinking 131 = .ok (.bipush 10, 2) := by decide +kernel
theorem dX7_tellSinking_133 : decode cX7_tellSinking 133 = .ok (.iadd, 1) := by decide +kernel
theorem dX7_tellSinking_134 : decode cX7_tellSinking 134 = .ok (.invokevirtual 118, 3) := by decide +kernel
theorem dX7_tellSinking_137 : decode cX7_tellSinking 137 = .ok (.aload_n 2, 1) := by decide +kernel
theorem dX7_tellSinking_138 : decode cX7_tellSinking 138 = .ok (.iload 5, 2) := by decide +kernel
theorem dX7_tellSinking_140 : decode cX7_tellSinking 140 = .ok (.iconst 1, 1) := by decide +kernel
theorem dX7_tellSinking_141 : decode cX7_tellSinking 141 = .ok (.iadd, 1) := by decide +kernel
theorem dX7_tellSinking_142 : decode cX7_tellSinking 142 = .ok (.invokevirtual 118, 3) := by decide +kernel
theorem dX7_tellSinking_145 : decode cX7_tellSinking 145 = .ok (.invokestatic 121, 3) := by decide +kernel
theorem dX7_tellSinking_148 : decode cX7_tellSinking 148 = .ok (.istore 6, 2) := by decide +kernel
theorem dX7_tellSinking_150 : decode cX7_tellSinking 150 = .ok (.aload_n 2, 1) := by decide +kernel
theorem dX7_tellSinking_151 : decode cX7_tellSinking 151 = .ok (.iload 5, 2) := by decide +kernel
theorem dX7_tellSinking_153 : decode cX7_tellSinking 153 = .ok (.aload_n 2, 1) := by decide +kernel
theorem dX7_tellSinking_154 : decode cX7_tellSinking 154 = .ok (.iload 5, 2) := by decide +kernel
theorem dX7_tellSinking_156 : decode cX7_tellSinking 156 = .ok (.invokevirtual 118, 3) := by decide +kernel
theorem dX7_tellSinking_159 : decode cX7_tellSinking 159 = .ok (.iload 6, 2) := by decide +kernel
theorem dX7_tellSinking_161 : decode cX7_tellSinking 161 = .ok (.bipush 8, 2) := by decide +kernel
theorem dX7_tellSinking_163 : decode cX7_tellSinking 163 = .ok (.isub, 1) := by decide +kernel
theorem dX7_tellSinking_164 : decode cX7_tellSinking 164 = .ok (.invokestatic 121, 3) := by decide +kernel
theorem dX7_tellSinking_167 : decode cX7_tellSinking 167 = .ok (.invokevirtual 168, 3) := by decide +kernel
theorem dX7_tellSinking_170 : decode cX7_tellSinking 170 = .ok (.iinc 4 (-1), 3) := by decide +kernel
theorem dX7_tellSinking_173 : decode cX7_tellSinking 173 = .ok (.goto (-61), 3) := by decide +kernel
theorem dX7_tellSinking_176 : decode cX7_tellSinking 176 = .ok (.return_, 1) := by decide +kernel
theorem dX7_slopesGently_0 : decode cX7_slopesGently 0 = .ok (.iconst 0, 1) := by decide +kernel
theorem dX7_slopesGently_1 : decode cX7_slopesGently 1 = .ok (.istore_n 2, 1) := by decide +kernel
theorem dX7_slopesGently_2 : decode cX7_slopesGently 2 = .ok (.iload_n 2, 1) := by decide +kernel
theorem dX7_slopesGently_3 : decode cX7_slopesGently 3 = .ok (.aload_n 0, 1) := by decide +kernel
theorem dX7_slopesGently_4 : decode cX7_slopesGently 4 = .ok (.getfield 48, 3) := by decide +kernel
theorem dX7_slopesGently_7 : decode cX7_slopesGently 7 = .ok (.invokevirtual 127, 3) := by decide +kernel
theorem dX7_slopesGently_10 : decode cX7_slopesGently 10 = .ok (.if_icmp .ge 82, 3) := by decide +kernel
theorem dX7_slopesGently_13 : decode cX7_slopesGently 13 = .ok (.aload_n 0, 1) := by decide +kernel
theorem dX7_slopesGently_14 : decode cX7_slopesGently 14 = .ok (.getfield 48, 3) := by decide +kernel
theorem dX7_slopesGently_17 : decode cX7_slopesGently 17 = .ok (.iload_n 2, 1) := by decide +kernel
theorem dX7_slopesGently_18 : decode cX7_slopesGently 18 = .ok (.invokevirtual 130, 3) := by decide +kernel
theorem dX7_slopesGently_21 : decode cX7_slopesGently 21 = .ok (.istore_n 3, 1) := by decide +kernel
theorem dX7_slopesGently_22 : decode cX7_slopesGently 22 = .ok (.iload_n 3, 1) := by decide +kernel
theorem dX7_slopesGently_23 : decode cX7_slopesGently 23 = .ok (.bipush 10, 2) := by decide +kernel
theorem dX7_slopesGently_25 : decode cX7_slopesGently 25 = .ok (.irem, 1) := by decide +kernel
theorem dX7_slopesGently_26 : decode cX7_slopesGently 26 = .ok (.istore 4, 2) := by decide +kernel
theorem dX7_slopesGently_28 : decode cX7_slopesGently 28 = .ok (.iload 4, 2) := by decide +kernel
theorem dX7_slopesGently_30 : decode cX7_slopesGently 30 = .ok (.ifCond .le 26, 3) := by decide +kernel
theorem dX7_slopesGently_33 : decode cX7_slopesGently 33 = .ok (.aload_n 1, 1) := by decide +kernel
theorem dX7_slopesGently_34 : decode cX7_slopesGently 34 = .ok (.iload_n 3, 1) := by decide +kernel
theorem dX7_slopesGently_35 : decode cX7_slopesGently 35 = .ok (.invokevirtual 118, 3) := by decide +kernel
theorem dX7_slopesGently_38 : decode cX7_slopesGently 38 = .ok (.aload_n 1, 1) := by decide +kernel
theorem dX7_slopesGently_39 : decode cX7_slopesGently 39 = .ok (.iload_n 3, 1) := by decide +kernel
theorem dX7_slopesGently_40 : decode cX7_slopesGently 40 = .ok (.iconst 1, 1) := by decide +kernel
theorem dX7_slopesGently_41 : decode cX7_slopesGently 41 = .ok (.isub, 1) := by decide +kernel
theorem dX7_slopesGently_42 : decode cX7_slopesGently 42 = .ok (.invokevirtual 118, 3) := by decide +kernel
theorem dX7_slopesGently_45 : decode cX7_slopesGently 45 = .ok (.isub, 1) := by decide +kernel
theorem dX7_slopesGently_46 : decode cX7_slopesGently 46 = .ok (.invokestatic 140, 3) := by decide +kernel
theorem dX7_slopesGently_49 : decode cX7_slopesGently 49 = .ok (.bipush 8, 2) := by decide +kernel
theorem dX7_slopesGently_51 : decode cX7_slopesGently 51 = .ok (.if_icmp .le 5, 3) := by decide +kernel
theorem dX7_slopesGently_54 : decode cX7_slopesGently 54 = .ok (.iconst 0, 1) := by decide +kernel
theorem dX7_slopesGently_55 : decode cX7_slopesGently 55 = .ok (.ireturn, 1) := by decide +kernel
theorem dX7_slopesGently_56 : decode cX7_slopesGently 56 = .ok (.iload_n 3, 1) := by decide +kernel
theorem dX7_slopesGently_57 : decode cX7_slopesGently 57 = .ok (.bipush 10, 2) := by decide +kernel
theorem dX7_slopesGently_59 : decode cX7_slopesGently 59 = .ok (.if_icmp .lt 27, 3) := by decide +kernel
theorem dX7_slopesGently_62 : decode cX7_slopesGently 62 = .ok (.aload_n 1, 1) := by decide +kernel
theorem dX7_slopesGently_63 : decode cX7_slopesGently 63 = .ok (.iload_n 3, 1) := by decide +kernel
theorem dX7_slopesGently_64 : decode cX7_slopesGently 64 = .ok (.invokevirtual 118, 3) := by decide +kernel
theorem dX7_slopesGently_67 : decode cX7_slopesGently 67 = .ok (.aload_n 1, 1) := by decide +kernel
theorem dX7_slopesGently_68 : decode cX7_slopesGently 68 = .ok (.iload_n 3, 1) := by decide +kernel
theorem dX7_slopesGently_69 : decode cX7_slopesGently 69 = .ok (.bipush 10, 2) := by decide +kernel
theorem dX7_slopesGently_71 : decode cX7_slopesGently 71 = .ok (.isub, 1) := by decide +kernel
theorem dX7_slopesGently_72 : decode cX7_slopesGently 72 = .ok (.invokevirtual 118, 3) := by decide +kernel
theorem dX7_slopesGently_75 : decode cX7_slopesGently 75 = .ok (.isub, 1) := by decide +kernel
theorem dX7_slopesGently_76 : decode cX7_slopesGently 76 = .ok (.invokestatic 140, 3) := by decide +kernel
theorem dX7_slopesGently_79 : decode cX7_slopesGently 79 = .ok (.bipush 8, 2) := by decide +kernel
theorem dX7_slopesGently_81 : decode cX7_slopesGently 81 = .ok (.if_icmp .le 5, 3) := by decide +kernel
theorem dX7_slopesGently_84 : decode cX7_slopesGently 84 = .ok (.iconst 0, 1) := by decide +kernel
theorem dX7_slopesGently_85 : decode cX7_slopesGently 85 = .ok (.ireturn, 1) := by decide +kernel
theorem dX7_slopesGently_86 : decode cX7_slopesGently 86 = .ok (.iinc 2 1, 3) := by decide +kernel
theorem dX7_slopesGently_89 : decode cX7_slopesGently 89 = .ok (.goto (-87), 3) := by decide +kernel
theorem dX7_slopesGently_92 : decode cX7_slopesGently 92 = .ok (.iconst 1, 1) := by decide +kernel
theorem dX7_slopesGently_93 : decode cX7_slopesGently 93 = .ok (.ireturn, 1) := by decide +kernel
theorem dX8_init_0 : decode cX8_init 0 = .ok (.aload_n 0, 1) := by decide +kernel
theorem dX8_init_1 : decode cX8_init 1 = .ok (.invokespecial 3, 3) := by decide +kernel
theorem dX8_init_4 : decode cX8_init 4 = .ok (.aload_n 0, 1) := by decide +kernel
theorem dX8_init_5 : decode cX8_init 5 = .ok (.bipush 9, 2) := by decide +kernel
theorem dX8_init_7 : decode cX8_init 7 = .ok (.newarray .char, 2) := by decide +kernel
theorem dX8_init_9 : decode cX8_init 9 = .ok (.putfield 9, 3) := by decide +kernel
theorem dX8_init_12 : decode cX8_init 12 = .ok (.return_, 1) := by decide +kernel
theorem dX8_letterAt_0 : decode cX8_letterAt 0 = .ok (.iload_n 1, 1) := by decide +kernel
theorem dX8_letterAt_1 : decode cX8_letterAt 1 = .ok (.ifCond .lt 29, 3) := by decide +kernel
theorem dX8_letterAt_4 : decode cX8_letterAt 4 = .ok (.iload_n 1, 1) := by decide +kernel
theorem dX8_letterAt_5 : decode cX8_letterAt 5 = .ok (.aload_n 0, 1) := by decide +kernel
theorem dX8_letterAt_6 : decode cX8_letterAt 6 = .ok (.getfield 15, 3) := by decide +kernel
theorem dX8_letterAt_9 : decode cX8_letterAt 9 = .ok (.if_icmp .ge 21, 3) := by decide +kernel
theorem dX8_letterAt_12 : decode cX8_letterAt 12 = .ok (.iload_n 1, 1) := by decide +kernel
theorem dX8_letterAt_13 : decode cX8_letterAt 13 = .ok (.aload_n 0, 1) := by decide +kernel
theorem dX8_letterAt_14 : decode cX8_letterAt 14 = .ok (.getfield 9, 3) := by decide +kernel
theorem dX8_letterAt_17 : decode cX8_letterAt 17 = .ok (.arraylength, 1) := by decide +kernel
theorem dX8_letterAt_18 : decode cX8_letterAt 18 = .ok (.if_icmp .ge 12, 3) := by decide +kernel
theorem dX8_letterAt_21 : decode cX8_letterAt 21 = .ok (.aload_n 0, 1) := by decide +kernel
theorem dX8_letterAt_22 : decode cX8_letterAt 22 = .ok (.getfield 9, 3) := by decide +kernel
theorem dX8_letterAt_25 : decode cX8_letterAt 25 = .ok (.iload_n 1, 1) := by decide +kernel
theorem dX8_letterAt_26 : decode cX8_letterAt 26 = .ok (.caload, 1) := by decide +kernel
theorem dX8_letterAt_27 : decode cX8_letterAt 27 = .ok (.goto 5, 3) := by decide +kernel
theorem dX8_letterAt_30 : decode cX8_letterAt 30 = .ok (.bipush 32, 2) := by decide +kernel
theorem dX8_letterAt_32 : decode cX8_letterAt 32 = .ok (.ireturn, 1) := by decide +kernel
theorem dX8_last_0 : decode cX8_last 0 = .ok (.aload_n 0, 1) := by decide +kernel
theorem dX8_last_1 : decode cX8_last 1 = .ok (.aload_n 0, 1) := by decide +kernel
theorem dX8_last_2 : decode cX8_last 2 = .ok (.getfield 15, 3) := by decide +kernel
theorem dX8_last_5 : decode cX8_last 5 = .ok (.iconst 1, 1) := by decide +kernel
theorem dX8_last_6 : decode cX8_last 6 = .ok (.isub, 1) := by decide +kernel
theorem dX8_last_7 : decode cX8_last 7 = .ok (.invokevirtual 19, 3) := by decide +kernel
theorem dX8_last_10 : decode cX8_last 10 = .ok (.ireturn, 1) := by decide +kernel
theorem dX8_allSigned_0 : decode cX8_allSigned 0 = .ok (.aload_n 0, 1) := by decide +kernel
theorem dX8_allSigned_1 : decode cX8_allSigned 1 = .ok (.getfield 23, 3) := by decide +kernel
theorem dX8_allSigned_4 : decode cX8_allSigned 4 = .ok (.aload_n 0, 1) := by decide +kernel
theorem dX8_allSigned_5 : decode cX8_allSigned 5 = .ok (.getfield 15, 3) := by decide +kernel
theorem dX8_allSigned_8 : decode cX8_allSigned 8 = .ok (.if_icmp .ne 7, 3) := by decide +kernel
theorem dX8_allSigned_11 : decode cX8_allSigned 11 = .ok (.iconst 1, 1) := by decide +kernel
theorem dX8_allSigned_12 : decode cX8_allSigned 12 = .ok (.goto 4, 3) := by decide +kernel
theorem dX8_allSigned_15 : decode cX8_allSigned 15 = .ok (.iconst 0, 1) := by decide +kernel
theorem dX8_allSigned_16 : decode cX8_allSigned 16 = .ok (.ireturn, 1) := by decide +kernel
theorem dX8_mayCome_0 : decode cX8_mayCome 0 = .ok (.aload_n 0, 1) := by decide +kernel
theorem dX8_mayCome_1 : decode cX8_mayCome 1 = .ok (.invokevirtual 26, 3) := by decide +kernel
theorem dX8_mayCome_4 : decode cX8_mayCome 4 = .ok (.ifCond .eq 19, 3) := by decide +kernel
theorem dX8_mayCome_7 : decode cX8_mayCome 7 = .ok (.aload_n 0, 1) := by decide +kernel
theorem dX8_mayCome_8 : decode cX8_mayCome 8 = .ok (.aload_n 0, 1) := by decide +kernel
theorem dX8_mayCome_9 : decode cX8_mayCome 9 = .ok (.getfield 15, 3) := by decide +kernel
theorem dX8_mayCome_12 : decode cX8_mayCome 12 = .ok (.iload_n 1, 1) := by decide +kernel
theorem dX8_mayCome_13 : decode cX8_mayCome 13 = .ok (.invokevirtual 30, 3) := by decide +kernel
theorem dX8_mayCome_16 : decode cX8_mayCome 16 = .ok (.ifCond .eq 7, 3) := by decide +kernel
theorem dX8_mayCome_19 : decode cX8_mayCome 19 = .ok (.iconst 1, 1) := by decide +kernel
theorem dX8_mayCome_20 : decode cX8_mayCome 20 = .ok (.goto 4, 3) := by decide +kernel
theorem dX8_mayCome_23 : decode cX8_mayCome 23 = .ok (.iconst 0, 1) := by decide +kernel
theorem dX8_mayCome_24 : decode cX8_mayCome 24 = .ok (.ireturn, 1) := by decide +kernel
theorem dX8_add_0 : decode cX8_add 0 = .ok (.aload_n 0, 1) := by decide +kernel
theorem dX8_add_1 : decode cX8_add 1 = .ok (.getfield 15, 3) := by decide +kernel
theorem dX8_add_4 : decode cX8_add 4 = .ok (.aload_n 0, 1) := by decide +kernel
theorem dX8_add_5 : decode cX8_add 5 = .ok (.getfield 9, 3) := by decide +kernel
theorem dX8_add_8 : decode cX8_add 8 = .ok (.arraylength, 1) := by decide +kernel
theorem dX8_add_9 : decode cX8_add 9 = .ok (.if_icmp .ge 23, 3) := by decide +kernel
theorem dX8_add_12 : decode cX8_add 12 = .ok (.aload_n 0, 1) := by decide +kernel
theorem dX8_add_13 : decode cX8_add 13 = .ok (.getfield 9, 3) := by decide +kernel
theorem dX8_add_16 : decode cX8_add 16 = .ok (.aload_n 0, 1) := by decide +kernel
theorem dX8_add_17 : decode cX8_add 17 = .ok (.getfield 15, 3) := by decide +kernel
theorem dX8_add_20 : decode cX8_add 20 = .ok (.iload_n 1, 1) := by decide +kernel
theorem dX8_add_21 : decode cX8_add 21 = .ok (.castore, 1) := by decide +kernel
theorem dX8_add_22 : decode cX8_add 22 = .ok (.aload_n 0, 1) := by decide +kernel
theorem dX8_add_23 : decode cX8_add 23 = .ok (.dup, 1) := by decide +kernel
theorem dX8_add_24 : decode cX8_add 24 = .ok (.getfield 15, 3) := by decide +kernel
theorem dX8_add_27 : decode cX8_add 27 = .ok (.iconst 1, 1) := by decide +kernel
theorem dX8_add_28 : decode cX8_add 28 = .ok (.iadd, 1) := by decide +kernel
theorem dX8_add_29 : decode cX8_add 29 = .ok (.putfield 15, 3) := by decide +kernel
theorem dX8_add_32 : decode cX8_add 32 = .ok (.aload_n 0, 1) := by decide +kernel
theorem dX8_add_33 : decode cX8_add 33 = .ok (.getfield 15, 3) := by decide +kernel
theorem dX8_add_36 : decode cX8_add 36 = .ok (.iconst 1, 1) := by decide +kernel
theorem dX8_add_37 : decode cX8_add 37 = .ok (.isub, 1) := by decide +kernel
theorem dX8_add_38 : decode cX8_add 38 = .ok (.ireturn, 1) := by decide +kernel
theorem dX8_signLast_0 : decode cX8_signLast 0 = .ok (.aload_n 0, 1) := by decide +kernel
theorem dX8_signLast_1 : decode cX8_signLast 1 = .ok (.aload_n 0, 1) := by decide +kernel
theorem dX8_signLast_2 : decode cX8_signLast 2 = .ok (.getfield 15, 3) := by decide +kernel
theorem dX8_signLast_5 : decode cX8_signLast 5 = .ok (.putfield 23, 3) := by decide +kernel
theorem dX8_signLast_8 : decode cX8_signLast 8 = .ok (.aload_n 0, 1) := by decide +kernel
theorem dX8_signLast_9 : decode cX8_signLast 9 = .ok (.getfield 23, 3) := by decide +kernel
theorem dX8_signLast_12 : decode cX8_signLast 12 = .ok (.ireturn, 1) := by decide +kernel
theorem dX8_areInOrder_0 : decode cX8_areInOrder 0 = .ok (.iconst 0, 1) := by decide +kernel
theorem dX8_areInOrder_1 : decode cX8_areInOrder 1 = .ok (.istore_n 1, 1) := by decide +kernel
theorem dX8_areInOrder_2 : decode cX8_areInOrder 2 = .ok (.iload_n 1, 1) := by decide +kernel
theorem dX8_areInOrder_3 : decode cX8_areInOrder 3 = .ok (.aload_n 0, 1) := by decide +kernel
theorem dX8_areInOrder_4 : decode cX8_areInOrder 4 = .ok (.getfield 15, 3) := by decide +kernel
theorem dX8_areInOrder_7 : decode cX8_areInOrder 7 = .ok (.if_icmp .ge 24, 3) := by decide +kernel
theorem dX8_areInOrder_10 : decode cX8_areInOrder 10 = .ok (.aload_n 0, 1) := by decide +kernel
theorem dX8_areInOrder_11 : decode cX8_areInOrder 11 = .ok (.iload_n 1, 1) := by decide +kernel
theorem dX8_areInOrder_12 : decode cX8_areInOrder 12 = .ok (.aload_n 0, 1) := by decide +kernel
theorem dX8_areInOrder_13 : decode cX8_areInOrder 13 = .ok (.iload_n 1, 1) := by decide +kernel
theorem dX8_areInOrder_14 : decode cX8_areInOrder 14 = .ok (.invokevirtual 19, 3) := by decide +kernel
theorem dX8_areInOrder_17 : decode cX8_areInOrder 17 = .ok (.invokevirtual 30, 3) := by decide +kernel
theorem dX8_areInOrder_20 : decode cX8_areInOrder 20 = .ok (.ifCond .ne 5, 3) := by decide +kernel
theorem dX8_areInOrder_23 : decode cX8_areInOrder 23 = .ok (.iconst 0, 1) := by decide +kernel
theorem dX8_areInOrder_24 : decode cX8_areInOrder 24 = .ok (.ireturn, 1) := by decide +kernel
theorem dX8_areInOrder_25 : decode cX8_areInOrder 25 = .ok (.iinc 1 1, 3) := by decide +kernel
theorem dX8_areInOrder_28 : decode cX8_areInOrder 28 = .ok (.goto (-26), 3) := by decide +kernel
theorem dX8_areInOrder_31 : decode cX8_areInOrder 31 = .ok (.aload_n 0, 1) := by decide +kernel
theorem dX8_areInOrder_32 : decode cX8_areInOrder 32 = .ok (.getfield 23, 3) := by decide +kernel
theorem dX8_areInOrder_35 : decode cX8_areInOrder 35 = .ok (.aload_n 0, 1) := by decide +kernel
theorem dX8_areInOrder_36 : decode cX8_areInOrder 36 = .ok (.getfield 15, 3) := by decide +kernel
theorem dX8_areInOrder_39 : decode cX8_areInOrder 39 = .ok (.if_icmp .eq 16, 3) := by decide +kernel
theorem dX8_areInOrder_42 : decode cX8_areInOrder 42 = .ok (.aload_n 0, 1) := by decide +kernel
theorem dX8_areInOrder_43 : decode cX8_areInOrder 43 = .ok (.getfield 23, 3) := by decide +kernel
theorem dX8_areInOrder_46 : decode cX8_areInOrder 46 = .ok (.aload_n 0, 1) := by decide +kernel
theorem dX8_areInOrder_47 : decode cX8_areInOrder 47 = .ok (.getfield 15, 3) := by decide +kernel
theorem dX8_areInOrder_50 : decode cX8_areInOrder 50 = .ok (.iconst 1, 1) := by decide +kernel
theorem dX8_areInOrder_51 : decode cX8_areInOrder 51 = .ok (.isub, 1) := by decide +kernel
theorem dX8_areInOrder_52 : decode cX8_areInOrder 52 = .ok (.if_icmp .ne 7, 3) := by decide +kernel
theorem dX8_areInOrder_55 : decode cX8_areInOrder 55 = .ok (.iconst 1, 1) := by decide +kernel
theorem dX8_areInOrder_56 : decode cX8_areInOrder 56 = .ok (.goto 4, 3) := by decide +kernel
theorem dX8_areInOrder_59 : decode cX8_areInOrder 59 = .ok (.iconst 0, 1) := by decide +kernel
theorem dX8_areInOrder_60 : decode cX8_areInOrder 60 = .ok (.ireturn, 1) := by decide +kernel
theorem dX8_mayFollow_0 : decode cX8_mayFollow 0 = .ok (.aload_n 0, 1) := by decide +kernel
theorem dX8_mayFollow_1 : decode cX8_mayFollow 1 = .ok (.iload_n 1, 1) := by decide +kernel
theorem dX8_mayFollow_2 : decode cX8_mayFollow 2 = .ok (.iconst 1, 1) := by decide +kernel
theorem dX8_mayFollow_3 : decode cX8_mayFollow 3 = .ok (.isub, 1) := by decide +kernel
theorem dX8_mayFollow_4 : decode cX8_mayFollow 4 = .ok (.invokevirtual 19, 3) := by decide +kernel
theorem dX8_mayFollow_7 : decode cX8_mayFollow 7 = .ok (.istore_n 3, 1) := by decide +kernel
theorem dX8_mayFollow_8 : decode cX8_mayFollow 8 = .ok (.iload_n 2, 1) := by decide +kernel
theorem dX8_mayFollow_9 : decode cX8_mayFollow 9 = .ok (.bipush 119, 2) := by decide +kernel
theorem dX8_mayFollow_11 : decode cX8_mayFollow 11 = .ok (.if_icmp .ne 13, 3) := by decide +kernel
theorem dX8_mayFollow_14 : decode cX8_mayFollow 14 = .ok (.iload_n 1, 1) := by decide +kernel
theorem dX8_mayFollow_15 : decode cX8_mayFollow 15 = .ok (.ifCond .ne 7, 3) := by decide +kernel
theorem dX8_mayFollow_18 : decode cX8_mayFollow 18 = .ok (.iconst 1, 1) := by decide +kernel
theorem dX8_mayFollow_19 : decode cX8_mayFollow 19 = .ok (.goto 4, 3) := by decide +kernel
theorem dX8_mayFollow_22 : decode cX8_mayFollow 22 = .ok (.iconst 0, 1) := by decide +kernel
theorem dX8_mayFollow_23 : decode cX8_mayFollow 23 = .ok (.ireturn, 1) := by decide +kernel
theorem dX8_mayFollow_24 : decode cX8_mayFollow 24 = .ok (.iload_n 2, 1) := by decide +kernel
theorem dX8_mayFollow_25 : decode cX8_mayFollow 25 = .ok (.bipush 115, 2) := by decide +kernel
theorem dX8_mayFollow_27 : decode cX8_mayFollow 27 = .ok (.if_icmp .ne 15, 3) := by decide +kernel
theorem dX8_mayFollow_30 : decode cX8_mayFollow 30 = .ok (.iload_n 3, 1) := by decide +kernel
theorem dX8_mayFollow_31 : decode cX8_mayFollow 31 = .ok (.bipush 119, 2) := by decide +kernel
theorem dX8_mayFollow_33 : decode cX8_mayFollow 33 = .ok (.if_icmp .ne 7, 3) := by decide +kernel
theorem dX8_mayFollow_36 : decode cX8_mayFollow 36 = .ok (.iconst 1, 1) := by decide +kernel
theorem dX8_mayFollow_37 : decode cX8_mayFollow 37 = .ok (.goto 4, 3) := by decide +kernel
theorem dX8_mayFollow_40 : decode cX8_mayFollow 40 = .ok (.iconst 0, 1) := by decide +kernel
theorem dX8_mayFollow_41 : decode cX8_mayFollow 41 = .ok (.ireturn, 1) := by decide +kernel
theorem dX8_mayFollow_42 : decode cX8_mayFollow 42 = .ok (.iload_n 2, 1) := by decide +kernel
theorem dX8_mayFollow_43 : decode cX8_mayFollow 43 = .ok (.bipush 116, 2) := by decide +kernel
theorem dX8_mayFollow_45 : decode cX8_mayFollow 45 = .ok (.if_icmp .ne 15, 3) := by decide +kernel
theorem dX8_mayFollow_48 : decode cX8_mayFollow 48 = .ok (.iload_n 3, 1) := by decide +kernel
theorem dX8_mayFollow_49 : decode cX8_mayFollow 49 = .ok (.bipush 115, 2) := by decide +kernel
theorem dX8_mayFollow_51 : decode cX8_mayFollow 51 = .ok (.if_icmp .ne 7, 3) := by decide +kernel
theorem dX8_mayFollow_54 : decode cX8_mayFollow 54 = .ok (.iconst 1, 1) := by decide +kernel
theorem dX8_mayFollow_55 : decode cX8_mayFollow 55 = .ok (.goto 4, 3) := by decide +kernel
theorem dX8_mayFollow_58 : decode cX8_mayFollow 58 = .ok (.iconst 0, 1) := by decide +kernel
theorem dX8_mayFollow_59 : decode cX8_mayFollow 59 = .ok (.ireturn, 1) := by decide +kernel
theorem dX8_mayFollow_60 : decode cX8_mayFollow 60 = .ok (.iload_n 2, 1) := by decide +kernel
theorem dX8_mayFollow_61 : decode cX8_mayFollow 61 = .ok (.bipush 108, 2) := by decide +kernel
theorem dX8_mayFollow_63 : decode cX8_mayFollow 63 = .ok (.if_icmp .ne 36, 3) := by decide +kernel
theorem dX8_mayFollow_66 : decode cX8_mayFollow 66 = .ok (.iload_n 3, 1) := by decide +kernel
theorem dX8_mayFollow_67 : decode cX8_mayFollow 67 = .ok (.bipush 115, 2) := by decide +kernel
theorem dX8_mayFollow_69 : decode cX8_mayFollow 69 = .ok (.if_icmp .eq 15, 3) := by decide +kernel
theorem dX8_mayFollow_72 : decode cX8_mayFollow 72 = .ok (.iload_n 3, 1) := by decide +kernel
theorem dX8_mayFollow_73 : decode cX8_mayFollow 73 = .ok (.bipush 116, 2) := by decide +kernel
theorem dX8_mayFollow_75 : decode cX8_mayFollow 75 = .ok (.if_icmp .eq 9, 3) := by decide +kernel
theorem dX8_mayFollow_78 : decode cX8_mayFollow 78 = .ok (.iload_n 3, 1) := by decide +kernel
theorem dX8_mayFollow_79 : decode cX8_mayFollow 79 = .ok (.bipush 108, 2) := by decide +kernel
theorem dX8_mayFollow_81 : decode cX8_mayFollow 81 = .ok (.if_icmp .ne 16, 3) := by decide +kernel
theorem dX8_mayFollow_84 : decode cX8_mayFollow 84 = .ok (.aload_n 0, 1) := by decide +kernel
theorem dX8_mayFollow_85 : decode cX8_mayFollow 85 = .ok (.iload_n 1, 1) := by decide +kernel
theorem dX8_mayFollow_86 : decode cX8_mayFollow 86 = .ok (.invokevirtual 47, 3) := by decide +kernel
theorem dX8_mayFollow_89 : decode cX8_mayFollow 89 = .ok (.iconst 4, 1) := by decide +kernel
theorem dX8_mayFollow_90 : decode cX8_mayFollow 90 = .ok (.if_icmp .ge 7, 3) := by decide +kernel
theorem dX8_mayFollow_93 : decode cX8_mayFollow 93 = .ok (.iconst 1, 1) := by decide +kernel
theorem dX8_mayFollow_94 : decode cX8_mayFollow 94 = .ok (.goto 4, 3) := by decide +kernel
theorem dX8_mayFollow_97 : decode cX8_mayFollow 97 = .ok (.iconst 0, 1) := by decide +kernel
theorem dX8_mayFollow_98 : decode cX8_mayFollow 98 = .ok (.ireturn, 1) := by decide +kernel
theorem dX8_mayFollow_99 : decode cX8_mayFollow 99 = .ok (.iload_n 2, 1) := by decide +kernel
theorem dX8_mayFollow_100 : decode cX8_mayFollow 100 = .ok (.bipush 98, 2) := by decide +kernel
theorem dX8_mayFollow_102 : decode cX8_mayFollow 102 = .ok (.if_icmp .ne 15, 3) := by decide +kernel
theorem dX8_mayFollow_105 : decode cX8_mayFollow 105 = .ok (.iload_n 3, 1) := by decide +kernel
theorem dX8_mayFollow_106 : decode cX8_mayFollow 106 = .ok (.bipush 108, 2) := by decide +kernel
theorem dX8_mayFollow_108 : decode cX8_mayFollow 108 = .ok (.if_icmp .ne 7, 3) := by decide +kernel
theorem dX8_mayFollow_111 : decode cX8_mayFollow 111 = .ok (.iconst 1, 1) := by decide +kernel
theorem dX8_mayFollow_112 : decode cX8_mayFollow 112 = .ok (.goto 4, 3) := by decide +kernel
theorem dX8_mayFollow_115 : decode cX8_mayFollow 115 = .ok (.iconst 0, 1) := by decide +kernel
theorem dX8_mayFollow_116 : decode cX8_mayFollow 116 = .ok (.ireturn, 1) := by decide +kernel
theorem dX8_mayFollow_117 : decode cX8_mayFollow 117 = .ok (.iload_n 2, 1) := by decide +kernel
theorem dX8_mayFollow_118 : decode cX8_mayFollow 118 = .ok (.bipush 99, 2) := by decide +kernel
theorem dX8_mayFollow_120 : decode cX8_mayFollow 120 = .ok (.if_icmp .ne 19, 3) := by decide +kernel
theorem dX8_mayFollow_123 : decode cX8_mayFollow 123 = .ok (.iload_n 3, 1) := by decide +kernel
theorem dX8_mayFollow_124 : decode cX8_mayFollow 124 = .ok (.bipush 108, 2) := by decide +kernel
theorem dX8_mayFollow_126 : decode cX8_mayFollow 126 = .ok (.if_icmp .eq 9, 3) := by decide +kernel
theorem dX8_mayFollow_129 : decode cX8_mayFollow 129 = .ok (.iload_n 3, 1) := by decide +kernel
theorem dX8_mayFollow_130 : decode cX8_mayFollow 130 = .ok (.bipush 98, 2) := by decide +kernel
theorem dX8_mayFollow_132 : decode cX8_mayFollow 132 = .ok (.if_icmp .ne 7, 3) := by decide +kernel
theorem dX8_mayFollow_135 : decode cX8_mayFollow 135 = .ok (.iconst 1, 1) := by decide +kernel
theorem dX8_mayFollow_136 : decode cX8_mayFollow 136 = .ok (.goto 4, 3) := by decide +kernel
theorem dX8_mayFollow_139 : decode cX8_mayFollow 139 = .ok (.iconst 0, 1) := by decide +kernel
theorem dX8_mayFollow_140 : decode cX8_mayFollow 140 = .ok (.ireturn, 1) := by decide +kernel
theorem dX8_layersAhead_0 : decode cX8_layersAhead 0 = .ok (.iconst 0, 1) := by decide +kernel
theorem dX8_layersAhead_1 : decode cX8_layersAhead 1 = .ok (.istore_n 2, 1) := by decide +kernel
theorem dX8_layersAhead_2 : decode cX8_layersAhead 2 = .ok (.iconst 0, 1) := by decide +kernel
theorem dX8_layersAhead_3 : decode cX8_layersAhead 3 = .ok (.istore_n 3, 1) := by decide +kernel
theorem dX8_layersAhead_4 : decode cX8_layersAhead 4 = .ok (.iload_n 3, 1) := by decide +kernel
theorem dX8_layersAhead_5 : decode cX8_layersAhead 5 = .ok (.iload_n 1, 1) := by decide +kernel
theorem dX8_layersAhead_6 : decode cX8_layersAhead 6 = .ok (.if_icmp .ge 22, 3) := by decide +kernel
theorem dX8_layersAhead_9 : decode cX8_layersAhead 9 = .ok (.aload_n 0, 1) := by decide +kernel
theorem dX8_layersAhead_10 : decode cX8_layersAhead 10 = .ok (.iload_n 3, 1) := by decide +kernel
theorem dX8_layersAhead_11 : decode cX8_layersAhead 11 = .ok (.invokevirtual 19, 3) := by decide +kernel
theorem dX8_layersAhead_14 : decode cX8_layersAhead 14 = .ok (.bipush 108, 2) := by decide +kernel
theorem dX8_layersAhead_16 : decode cX8_layersAhead 16 = .ok (.if_icmp .ne 6, 3) := by decide +kernel
theorem dX8_layersAhead_19 : decode cX8_layersAhead 19 = .ok (.iinc 2 1, 3) := by decide +kernel
theorem dX8_layersAhead_22 : decode cX8_layersAhead 22 = .ok (.iinc 3 1, 3) := by decide +kernel
theorem dX8_layersAhead_25 : decode cX8_layersAhead 25 = .ok (.goto (-21), 3) := by decide +kernel
theorem dX8_layersAhead_28 : decode cX8_layersAhead 28 = .ok (.iload_n 2, 1) := by decide +kernel
theorem dX8_layersAhead_29 : decode cX8_layersAhead 29 = .ok (.ireturn, 1) := by decide +kernel
theorem dX9_init_0 : decode cX9_init 0 = .ok (.aload_n 0, 1) := by decide +kernel
theorem dX9_init_1 : decode cX9_init 1 = .ok (.invokespecial 1, 3) := by decide +kernel
theorem dX9_init_4 : decode cX9_init 4 = .ok (.aload_n 0, 1) := by decide +kernel
theorem dX9_init_5 : decode cX9_init 5 = .ok (.new 7, 3) := by decide +kernel
theorem dX9_init_8 : decode cX9_init 8 = .ok (.dup, 1) := by decide +kernel
theorem dX9_init_9 : decode cX9_init 9 = .ok (.invokespecial 9, 3) := by decide +kernel
theorem dX9_init_12 : decode cX9_init 12 = .ok (.putfield 10, 3) := by decide +kernel
theorem dX9_init_15 : decode cX9_init 15 = .ok (.aload_n 0, 1) := by decide +kernel
theorem dX9_init_16 : decode cX9_init 16 = .ok (.new 7, 3) := by decide +kernel
theorem dX9_init_19 : decode cX9_init 19 = .ok (.dup, 1) := by decide +kernel
theorem dX9_init_20 : decode cX9_init 20 = .ok (.invokespecial 9, 3) := by decide +kernel
theorem dX9_init_23 : decode cX9_init 23 = .ok (.putfield 16, 3) := by decide +kernel
theorem dX9_init_26 : decode cX9_init 26 = .ok (.aload_n 0, 1) := by decide +kernel
theorem dX9_init_27 : decode cX9_init 27 = .ok (.new 7, 3) := by decide +kernel
theorem dX9_init_30 : decode cX9_init 30 = .ok (.dup, 1) := by decide +kernel
theorem dX9_init_31 : decode cX9_init 31 = .ok (.invokespecial 9, 3) := by decide +kernel
theorem dX9_init_34 : decode cX9_init 34 = .ok (.putfield 19, 3) := by decide +kernel
theorem dX9_init_37 : decode cX9_init 37 = .ok (.aload_n 0, 1) := by decide +kernel
theorem dX9_init_38 : decode cX9_init 38 = .ok (.new 7, 3) := by decide +kernel
theorem dX9_init_41 : decode cX9_init 41 = .ok (.dup, 1) := by decide +kernel
theorem dX9_init_42 : decode cX9_init 42 = .ok (.invokespecial 9, 3) := by decide +kernel
theorem dX9_init_45 : decode cX9_init 45 = .ok (.putfield 22, 3) := by decide +kernel
theorem dX9_init_48 : decode cX9_init 48 = .ok (.aload_n 0, 1) := by decide +kernel
theorem dX9_init_49 : decode cX9_init 49 = .ok (.new 25, 3) := by decide +kernel
theorem dX9_init_52 : decode cX9_init 52 = .ok (.dup, 1) := by decide +kernel
theorem dX9_init_53 : decode cX9_init 53 = .ok (.invokespecial 27, 3) := by decide +kernel
theorem dX9_init_56 : decode cX9_init 56 = .ok (.putfield 28, 3) := by decide +kernel
theorem dX9_init_59 : decode cX9_init 59 = .ok (.aload_n 0, 1) := by decide +kernel
theorem dX9_init_60 : decode cX9_init 60 = .ok (.new 25, 3) := by decide +kernel
theorem dX9_init_63 : decode cX9_init 63 = .ok (.dup, 1) := by decide +kernel
theorem dX9_init_64 : decode cX9_init 64 = .ok (.invokespecial 27, 3) := by decide +kernel
theorem dX9_init_67 : decode cX9_init 67 = .ok (.putfield 32, 3) := by decide +kernel
theorem dX9_init_70 : decode cX9_init 70 = .ok (.iconst 0, 1) := by decide +kernel
theorem dX9_init_71 : decode cX9_init 71 = .ok (.istore_n 1, 1) := by decide +kernel
theorem dX9_init_72 : decode cX9_init 72 = .ok (.iload_n 1, 1) := by decide +kernel
theorem dX9_init_73 : decode cX9_init 73 = .ok (.iconst 4, 1) := by decide +kernel
theorem dX9_init_74 : decode cX9_init 74 = .ok (.if_icmp .ge 24, 3) := by decide +kernel
theorem dX9_init_77 : decode cX9_init 77 = .ok (.aload_n 0, 1) := by decide +kernel
theorem dX9_init_78 : decode cX9_init 78 = .ok (.getfield 22, 3) := by decide +kernel
theorem dX9_init_81 : decode cX9_init 81 = .ok (.new 35, 3) := by decide +kernel
theorem dX9_init_84 : decode cX9_init 84 = .ok (.dup, 1) := by decide +kernel
theorem dX9_init_85 : decode cX9_init 85 = .ok (.invokespecial 37, 3) := by decide +kernel
theorem dX9_init_88 : decode cX9_init 88 = .ok (.invokevirtual 38, 3) := by decide +kernel
theorem dX9_init_91 : decode cX9_init 91 = .ok (.pop, 1) := by decide +kernel
theorem dX9_init_92 : decode cX9_init 92 = .ok (.iinc 1 1, 3) := by decide +kernel
theorem dX9_init_95 : decode cX9_init 95 = .ok (.goto (-23), 3) := by decide +kernel
theorem dX9_init_98 : decode cX9_init 98 = .ok (.return_, 1) := by decide +kernel
theorem dX9_seat_0 : decode cX9_seat 0 = .ok (.iload_n 1, 1) := by decide +kernel
theorem dX9_seat_1 : decode cX9_seat 1 = .ok (.iconst 1, 1) := by decide +kernel
theorem dX9_seat_2 : decode cX9_seat 2 = .ok (.bipush 6, 2) := by decide +kernel
theorem dX9_seat_4 : decode cX9_seat 4 = .ok (.invokestatic 42, 3) := by decide +kernel
theorem dX9_seat_7 : decode cX9_seat 7 = .ok (.iload_n 2, 1) := by decide +kernel
theorem dX9_seat_8 : decode cX9_seat 8 = .ok (.iconst 1, 1) := by decide +kernel
theorem dX9_seat_9 : decode cX9_seat 9 = .ok (.bipush 6, 2) := by decide +kernel
theorem dX9_seat_11 : decode cX9_seat 11 = .ok (.invokestatic 42, 3) := by decide +kernel
theorem dX9_seat_14 : decode cX9_seat 14 = .ok (.aload_n 0, 1) := by decide +kernel
theorem dX9_seat_15 : decode cX9_seat 15 = .ok (.getfield 10, 3) := by decide +kernel
theorem dX9_seat_18 : decode cX9_seat 18 = .ok (.invokevirtual 46, 3) := by decide +kernel
theorem dX9_seat_21 : decode cX9_seat 21 = .ok (.iconst 4, 1) := by decide +kernel
theorem dX9_seat_22 : decode cX9_seat 22 = .ok (.invokestatic 50, 3) := by decide +kernel
theorem dX9_seat_25 : decode cX9_seat 25 = .ok (.aload_n 0, 1) := by decide +kernel
theorem dX9_seat_26 : decode cX9_seat 26 = .ok (.getfield 10, 3) := by decide +kernel
theorem dX9_seat_29 : decode cX9_seat 29 = .ok (.new 54, 3) := by decide +kernel
theorem dX9_seat_32 : decode cX9_seat 32 = .ok (.dup, 1) := by decide +kernel
theorem dX9_seat_33 : decode cX9_seat 33 = .ok (.iload_n 1, 1) := by decide +kernel
theorem dX9_seat_34 : decode cX9_seat 34 = .ok (.iload_n 2, 1) := by decide +kernel
theorem dX9_seat_35 : decode cX9_seat 35 = .ok (.invokespecial 56, 3) := by decide +kernel
theorem dX9_seat_38 : decode cX9_seat 38 = .ok (.invokevirtual 38, 3) := by decide +kernel
theorem dX9_seat_41 : decode cX9_seat 41 = .ok (.pop, 1) := by decide +kernel
theorem dX9_seat_42 : decode cX9_seat 42 = .ok (.aload_n 0, 1) := by decide +kernel
theorem dX9_seat_43 : decode cX9_seat 43 = .ok (.getfield 10, 3) := by decide +kernel
theorem dX9_seat_46 : decode cX9_seat 46 = .ok (.invokevirtual 46, 3) := by decide +kernel
theorem dX9_seat_49 : decode cX9_seat 49 = .ok (.iconst 1, 1) := by decide +kernel
theorem dX9_seat_50 : decode cX9_seat 50 = .ok (.isub, 1) := by decide +kernel
theorem dX9_seat_51 : decode cX9_seat 51 = .ok (.ireturn, 1) := by decide +kernel
theorem dX9_web_0 : decode cX9_web 0 = .ok (.aload_n 0, 1) := by decide +kernel
theorem dX9_web_1 : decode cX9_web 1 = .ok (.iload_n 1, 1) := by decide +kernel
theorem dX9_web_2 : decode cX9_web 2 = .ok (.invokevirtual 58, 3) := by decide +kernel
theorem dX9_web_5 : decode cX9_web 5 = .ok (.astore_n 3, 1) := by decide +kernel
theorem dX9_web_6 : decode cX9_web 6 = .ok (.iload_n 2, 1) := by decide +kernel
theorem dX9_web_7 : decode cX9_web 7 = .ok (.iconst 1, 1) := by decide +kernel
theorem dX9_web_8 : decode cX9_web 8 = .ok (.bipush 9, 2) := by decide +kernel
theorem dX9_web_10 : decode cX9_web 10 = .ok (.invokestatic 42, 3) := by decide +kernel
theorem dX9_web_13 : decode cX9_web 13 = .ok (.aload_n 3, 1) := by decide +kernel
theorem dX9_web_14 : decode cX9_web 14 = .ok (.bipush 119, 2) := by decide +kernel
theorem dX9_web_16 : decode cX9_web 16 = .ok (.invokestatic 62, 3) := by decide +kernel
theorem dX9_web_19 : decode cX9_web 19 = .ok (.aload_n 3, 1) := by decide +kernel
theorem dX9_web_20 : decode cX9_web 20 = .ok (.getfield 66, 3) := by decide +kernel
theorem dX9_web_23 : decode cX9_web 23 = .ok (.iload_n 2, 1) := by decide +kernel
theorem dX9_web_24 : decode cX9_web 24 = .ok (.putfield 70, 3) := by decide +kernel
theorem dX9_web_27 : decode cX9_web 27 = .ok (.aload_n 3, 1) := by decide +kernel
theorem dX9_web_28 : decode cX9_web 28 = .ok (.getfield 76, 3) := by decide +kernel
theorem dX9_web_31 : decode cX9_web 31 = .ok (.bipush 119, 2) := by decide +kernel
theorem dX9_web_33 : decode cX9_web 33 = .ok (.invokevirtual 80, 3) := by decide +kernel
theorem dX9_web_36 : decode cX9_web 36 = .ok (.ireturn, 1) := by decide +kernel
theorem dX9_spring_0 : decode cX9_spring 0 = .ok (.aload_n 0, 1) := by decide +kernel
theorem dX9_spring_1 : decode cX9_spring 1 = .ok (.iload_n 1, 1) := by decide +kernel
theorem dX9_spring_2 : decode cX9_spring 2 = .ok (.invokevirtual 58, 3) := by decide +kernel
theorem dX9_spring_5 : decode cX9_spring 5 = .ok (.astore 4, 2) := by decide +kernel
theorem dX9_spring_7 : decode cX9_spring 7 = .ok (.iload_n 2, 1) := by decide +kernel
theorem dX9_spring_8 : decode cX9_spring 8 = .ok (.bipush 20, 2) := by decide +kernel
theorem dX9_spring_10 : decode cX9_spring 10 = .ok (.bipush 99, 2) := by decide +kernel
theorem dX9_spring_12 : decode cX9_spring 12 = .ok (.invokestatic 42, 3) := by decide +kernel
theorem dX9_spring_15 : decode cX9_spring 15 = .ok (.iload_n 3, 1) := by decide +kernel
theorem dX9_spring_16 : decode cX9_spring 16 = .ok (.iconst 1, 1) := by decide +kernel
theorem dX9_spring_17 : decode cX9_spring 17 = .ok (.bipush 9, 2) := by decide +kernel
theorem dX9_spring_19 : decode cX9_spring 19 = .ok (.invokestatic 42, 3) := by decide +kernel
theorem dX9_spring_22 : decode cX9_spring 22 = .ok (.aload 4, 2) := by decide +kernel
theorem dX9_spring_24 : decode cX9_spring 24 = .ok (.bipush 115, 2) := by decide +kernel
theorem dX9_spring_26 : decode cX9_spring 26 = .ok (.invokestatic 62, 3) := by decide +kernel
theorem dX9_spring_29 : decode cX9_spring 29 = .ok (.aload 4, 2) := by decide +kernel
theorem dX9_spring_31 : decode cX9_spring 31 = .ok (.getfield 66, 3) := by decide +kernel
theorem dX9_spring_34 : decode cX9_spring 34 = .ok (.iload_n 2, 1) := by decide +kernel
theorem dX9_spring_35 : decode cX9_spring 35 = .ok (.iload_n 3, 1) := by decide +kernel
theorem dX9_spring_36 : decode cX9_spring 36 = .ok (.invokevirtual 85, 3) := by decide +kernel
theorem dX9_spring_39 : decode cX9_spring 39 = .ok (.aload 4, 2) := by decide +kernel
theorem dX9_spring_41 : decode cX9_spring 41 = .ok (.getfield 76, 3) := by decide +kernel
theorem dX9_spring_44 : decode cX9_spring 44 = .ok (.bipush 115, 2) := by decide +kernel
theorem dX9_spring_46 : decode cX9_spring 46 = .ok (.invokevirtual 80, 3) := by decide +kernel
theorem dX9_spring_49 : decode cX9_spring 49 = .ok (.ireturn, 1) := by decide +kernel
theorem dX9_change_0 : decode cX9_change 0 = .ok (.aload_n 0, 1) := by decide +kernel
theorem dX9_change_1 : decode cX9_change 1 = .ok (.iload_n 1, 1) := by decide +kernel
theorem dX9_change_2 : decode cX9_change 2 = .ok (.invokevirtual 58, 3) := by decide +kernel
theorem dX9_change_5 : decode cX9_change 5 = .ok (.astore 5, 2) := by decide +kernel
theorem dX9_change_7 : decode cX9_change 7 = .ok (.aload 5, 2) := by decide +kernel
theorem dX9_change_9 : decode cX9_change 9 = .ok (.iload_n 2, 1) := by decide +kernel
theorem dX9_change_10 : decode cX9_change 10 = .ok (.invokestatic 88, 3) := by decide +kernel
theorem dX9_change_13 : decode cX9_change 13 = .ok (.iload_n 3, 1) := by decide +kernel
theorem dX9_change_14 : decode cX9_change 14 = .ok (.bipush 20, 2) := by decide +kernel
theorem dX9_change_16 : decode cX9_change 16 = .ok (.bipush 99, 2) := by decide +kernel
theorem dX9_change_18 : decode cX9_change 18 = .ok (.invokestatic 42, 3) := by decide +kernel
theorem dX9_change_21 : decode cX9_change 21 = .ok (.iload 4, 2) := by decide +kernel
theorem dX9_change_23 : decode cX9_change 23 = .ok (.iconst 1, 1) := by decide +kernel
theorem dX9_change_24 : decode cX9_change 24 = .ok (.bipush 9, 2) := by decide +kernel
theorem dX9_change_26 : decode cX9_change 26 = .ok (.invokestatic 42, 3) := by decide +kernel
theorem dX9_change_29 : decode cX9_change 29 = .ok (.aload 5, 2) := by decide +kernel
theorem dX9_change_31 : decode cX9_change 31 = .ok (.bipush 115, 2) := by decide +kernel
theorem dX9_change_33 : decode cX9_change 33 = .ok (.invokestatic 92, 3) := by decide +kernel
theorem dX9_change_36 : decode cX9_change 36 = .ok (.aload 5, 2) := by decide +kernel
theorem dX9_change_38 : decode cX9_change 38 = .ok (.getfield 66, 3) := by decide +kernel
theorem dX9_change_41 : decode cX9_change 41 = .ok (.getfield 95, 3) := by decide +kernel
theorem dX9_change_44 : decode cX9_change 44 = .ok (.iload_n 2, 1) := by decide +kernel
theorem dX9_change_45 : decode cX9_change 45 = .ok (.invokevirtual 98, 3) := by decide +kernel
theorem dX9_change_48 : decode cX9_change 48 = .ok (.istore 6, 2) := by decide +kernel
theorem dX9_change_50 : decode cX9_change 50 = .ok (.aload 5, 2) := by decide +kernel
theorem dX9_change_52 : decode cX9_change 52 = .ok (.getfield 66, 3) := by decide +kernel
theorem dX9_change_55 : decode cX9_change 55 = .ok (.iload_n 2, 1) := by decide +kernel
theorem dX9_change_56 : decode cX9_change 56 = .ok (.iload_n 3, 1) := by decide +kernel
theorem dX9_change_57 : decode cX9_change 57 = .ok (.iload 4, 2) := by decide +kernel
theorem dX9_change_59 : decode cX9_change 59 = .ok (.invokevirtual 102, 3) := by decide +kernel
theorem dX9_change_62 : decode cX9_change 62 = .ok (.iload 6, 2) := by decide +kernel
theorem dX9_change_64 : decode cX9_change 64 = .ok (.ireturn, 1) := by decide +kernel
theorem dX9_tie_0 : decode cX9_tie 0 = .ok (.aload_n 0, 1) := by decide +kernel
theorem dX9_tie_1 : decode cX9_tie 1 = .ok (.iload_n 1, 1) := by decide +kernel
theorem dX9_tie_2 : decode cX9_tie 2 = .ok (.invokevirtual 58, 3) := by decide +kernel
theorem dX9_tie_5 : decode cX9_tie 5 = .ok (.astore_n 2, 1) := by decide +kernel
theorem dX9_tie_6 : decode cX9_tie 6 = .ok (.aload_n 2, 1) := by decide +kernel
theorem dX9_tie_7 : decode cX9_tie 7 = .ok (.bipush 116, 2) := by decide +kernel
theorem dX9_tie_9 : decode cX9_tie 9 = .ok (.invokestatic 62, 3) := by decide +kernel
theorem dX9_tie_12 : decode cX9_tie 12 = .ok (.aload_n 2, 1) := by decide +kernel
theorem dX9_tie_13 : decode cX9_tie 13 = .ok (.getfield 76, 3) := by decide +kernel
theorem dX9_tie_16 : decode cX9_tie 16 = .ok (.bipush 116, 2) := by decide +kernel
theorem dX9_tie_18 : decode cX9_tie 18 = .ok (.invokevirtual 80, 3) := by decide +kernel
theorem dX9_tie_21 : decode cX9_tie 21 = .ok (.ireturn, 1) := by decide +kernel
theorem dX9_pull_0 : decode cX9_pull 0 = .ok (.aload_n 0, 1) := by decide +kernel
theorem dX9_pull_1 : decode cX9_pull 1 = .ok (.iload_n 1, 1) := by decide +kernel
theorem dX9_pull_2 : decode cX9_pull 2 = .ok (.invokevirtual 58, 3) := by decide +kernel
theorem dX9_pull_5 : decode cX9_pull 5 = .ok (.astore 5, 2) := by decide +kernel
theorem dX9_pull_7 : decode cX9_pull 7 = .ok (.iload_n 3, 1) := by decide +kernel
theorem dX9_pull_8 : decode cX9_pull 8 = .ok (.iload_n 2, 1) := by decide +kernel
theorem dX9_pull_9 : decode cX9_pull 9 = .ok (.ifCond .eq 14, 3) := by decide +kernel
theorem dX9_pull_12 : decode cX9_pull 12 = .ok (.aload 5, 2) := by decide +kernel
theorem dX9_pull_14 : decode cX9_pull 14 = .ok (.getfield 66, 3) := by decide +kernel
theorem dX9_pull_17 : decode cX9_pull 17 = .ok (.getfield 105, 3) := by decide +kernel
theorem dX9_pull_20 : decode cX9_pull 20 = .ok (.goto 11, 3) := by decide +kernel
theorem dX9_pull_23 : decode cX9_pull 23 = .ok (.aload 5, 2) := by decide +kernel
theorem dX9_pull_25 : decode cX9_pull 25 = .ok (.getfield 66, 3) := by decide +kernel
theorem dX9_pull_28 : decode cX9_pull 28 = .ok (.getfield 108, 3) := by decide +kernel
theorem dX9_pull_31 : decode cX9_pull 31 = .ok (.invokestatic 111, 3) := by decide +kernel
theorem dX9_pull_34 : decode cX9_pull 34 = .ok (.iload 4, 2) := by decide +kernel
theorem dX9_pull_36 : decode cX9_pull 36 = .ok (.bipush 10, 2) := by decide +kernel
theorem dX9_pull_38 : decode cX9_pull 38 = .ok (.bipush 99, 2) := by decide +kernel
theorem dX9_pull_40 : decode cX9_pull 40 = .ok (.invokestatic 42, 3) := by decide +kernel
theorem dX9_pull_43 : decode cX9_pull 43 = .ok (.aload 5, 2) := by decide +kernel
theorem dX9_pull_45 : decode cX9_pull 45 = .ok (.bipush 116, 2) := by decide +kernel
theorem dX9_pull_47 : decode cX9_pull 47 = .ok (.invokestatic 92, 3) := by decide +kernel
theorem dX9_pull_50 : decode cX9_pull 50 = .ok (.aload 5, 2) := by decide +kernel
theorem dX9_pull_52 : decode cX9_pull 52 = .ok (.getfield 66, 3) := by decide +kernel
theorem dX9_pull_55 : decode cX9_pull 55 = .ok (.invokevirtual 114, 3) := by decide +kernel
theorem dX9_pull_58 : decode cX9_pull 58 = .ok (.istore 6, 2) := by decide +kernel
theorem dX9_pull_60 : decode cX9_pull 60 = .ok (.aload 5, 2) := by decide +kernel
theorem dX9_pull_62 : decode cX9_pull 62 = .ok (.getfield 66, 3) := by decide +kernel
theorem dX9_pull_65 : decode cX9_pull 65 = .ok (.iload_n 2, 1) := by decide +kernel
theorem dX9_pull_66 : decode cX9_pull 66 = .ok (.iload_n 3, 1) := by decide +kernel
theorem dX9_pull_67 : decode cX9_pull 67 = .ok (.iload 4, 2) := by decide +kernel
theorem dX9_pull_69 : decode cX9_pull 69 = .ok (.invokevirtual 117, 3) := by decide +kernel
theorem dX9_pull_72 : decode cX9_pull 72 = .ok (.iload 6, 2) := by decide +kernel
theorem dX9_pull_74 : decode cX9_pull 74 = .ok (.aload 5, 2) := by decide +kernel
theorem dX9_pull_76 : decode cX9_pull 76 = .ok (.getfield 66, 3) := by decide +kernel
theorem dX9_pull_79 : decode cX9_pull 79 = .ok (.invokevirtual 114, 3) := by decide +kernel
theorem dX9_pull_82 : decode cX9_pull 82 = .ok (.isub, 1) := by decide +kernel
theorem dX9_pull_83 : decode cX9_pull 83 = .ok (.invokestatic 121, 3) := by decide +kernel
theorem dX9_pull_86 : decode cX9_pull 86 = .ok (.ireturn, 1) := by decide +kernel
theorem dX9_layer_0 : decode cX9_layer 0 = .ok (.aload_n 0, 1) := by decide +kernel
theorem dX9_layer_1 : decode cX9_layer 1 = .ok (.iload_n 1, 1) := by decide +kernel
theorem dX9_layer_2 : decode cX9_layer 2 = .ok (.invokevirtual 58, 3) := by decide +kernel
theorem dX9_layer_5 : decode cX9_layer 5 = .ok (.astore 5, 2) := by decide +kernel
theorem dX9_layer_7 : decode cX9_layer 7 = .ok (.iload_n 2, 1) := by decide +kernel
theorem dX9_layer_8 : decode cX9_layer 8 = .ok (.invokestatic 126, 3) := by decide +kernel
theorem dX9_layer_11 : decode cX9_layer 11 = .ok (.iload_n 3, 1) := by decide +kernel
theorem dX9_layer_12 : decode cX9_layer 12 = .ok (.iconst 5, 1) := by decide +kernel
theorem dX9_layer_13 : decode cX9_layer 13 = .ok (.bipush 60, 2) := by decide +kernel
theorem dX9_layer_15 : decode cX9_layer 15 = .ok (.invokestatic 42, 3) := by decide +kernel
theorem dX9_layer_18 : decode cX9_layer 18 = .ok (.iload 4, 2) := by decide +kernel
theorem dX9_layer_20 : decode cX9_layer 20 = .ok (.iconst 1, 1) := by decide +kernel
theorem dX9_layer_21 : decode cX9_layer 21 = .ok (.bipush 9, 2) := by decide +kernel
theorem dX9_layer_23 : decode cX9_layer 23 = .ok (.invokestatic 42, 3) := by decide +kernel
theorem dX9_layer_26 : decode cX9_layer 26 = .ok (.aload 5, 2) := by decide +kernel
theorem dX9_layer_28 : decode cX9_layer 28 = .ok (.bipush 108, 2) := by decide +kernel
theorem dX9_layer_30 : decode cX9_layer 30 = .ok (.invokestatic 62, 3) := by decide +kernel
theorem dX9_layer_33 : decode cX9_layer 33 = .ok (.aload 5, 2) := by decide +kernel
theorem dX9_layer_35 : decode cX9_layer 35 = .ok (.getfield 130, 3) := by decide +kernel
theorem dX9_layer_38 : decode cX9_layer 38 = .ok (.new 134, 3) := by decide +kernel
theorem dX9_layer_41 : decode cX9_layer 41 = .ok (.dup, 1) := by decide +kernel
theorem dX9_layer_42 : decode cX9_layer 42 = .ok (.iload_n 2, 1) := by decide +kernel
theorem dX9_layer_43 : decode cX9_layer 43 = .ok (.iload_n 3, 1) := by decide +kernel
theorem dX9_layer_44 : decode cX9_layer 44 = .ok (.iload 4, 2) := by decide +kernel
theorem dX9_layer_46 : decode cX9_layer 46 = .ok (.invokespecial 136, 3) := by decide +kernel
theorem dX9_layer_49 : decode cX9_layer 49 = .ok (.invokevirtual 139, 3) := by decide +kernel
theorem dX9_layer_52 : decode cX9_layer 52 = .ok (.aload 5, 2) := by decide +kernel
theorem dX9_layer_54 : decode cX9_layer 54 = .ok (.getfield 76, 3) := by decide +kernel
theorem dX9_layer_57 : decode cX9_layer 57 = .ok (.bipush 108, 2) := by decide +kernel
theorem dX9_layer_59 : decode cX9_layer 59 = .ok (.invokevirtual 80, 3) := by decide +kernel
theorem dX9_layer_62 : decode cX9_layer 62 = .ok (.ireturn, 1) := by decide +kernel
theorem dX9_buttons_0 : decode cX9_buttons 0 = .ok (.aload_n 0, 1) := by decide +kernel
theorem dX9_buttons_1 : decode cX9_buttons 1 = .ok (.iload_n 1, 1) := by decide +kernel
theorem dX9_buttons_2 : decode cX9_buttons 2 = .ok (.invokevirtual 58, 3) := by decide +kernel
theorem dX9_buttons_5 : decode cX9_buttons 5 = .ok (.astore_n 2, 1) := by decide +kernel
theorem dX9_buttons_6 : decode cX9_buttons 6 = .ok (.aload_n 2, 1) := by decide +kernel
theorem dX9_buttons_7 : decode cX9_buttons 7 = .ok (.bipush 98, 2) := by decide +kernel
theorem dX9_buttons_9 : decode cX9_buttons 9 = .ok (.invokestatic 62, 3) := by decide +kernel
theorem dX9_buttons_12 : decode cX9_buttons 12 = .ok (.aload_n 2, 1) := by decide +kernel
theorem dX9_buttons_13 : decode cX9_buttons 13 = .ok (.getfield 76, 3) := by decide +kernel
theorem dX9_buttons_16 : decode cX9_buttons 16 = .ok (.bipush 98, 2) := by decide +kernel
theorem dX9_buttons_18 : decode cX9_buttons 18 = .ok (.invokevirtual 80, 3) := by decide +kernel
theorem dX9_buttons_21 : decode cX9_buttons 21 = .ok (.ireturn, 1) := by decide +kernel
theorem dX9_draw_0 : decode cX9_draw 0 = .ok (.aload_n 0, 1) := by decide +kernel
theorem dX9_draw_1 : decode cX9_draw 1 = .ok (.iload_n 1, 1) := by decide +kernel
theorem dX9_draw_2 : decode cX9_draw 2 = .ok (.invokevirtual 58, 3) := by decide +kernel
theorem dX9_draw_5 : decode cX9_draw 5 = .ok (.astore 4, 2) := by decide +kernel
theorem dX9_draw_7 : decode cX9_draw 7 = .ok (.aload 4, 2) := by decide +kernel
theorem dX9_draw_9 : decode cX9_draw 9 = .ok (.iload_n 2, 1) := by decide +kernel
theorem dX9_draw_10 : decode cX9_draw 10 = .ok (.invokestatic 88, 3) := by decide +kernel
theorem dX9_draw_13 : decode cX9_draw 13 = .ok (.iload_n 3, 1) := by decide +kernel
theorem dX9_draw_14 : decode cX9_draw 14 = .ok (.iconst 1, 1) := by decide +kernel
theorem dX9_draw_15 : decode cX9_draw 15 = .ok (.bipush 30, 2) := by decide +kernel
theorem dX9_draw_17 : decode cX9_draw 17 = .ok (.invokestatic 42, 3) := by decide +kernel
theorem dX9_draw_20 : decode cX9_draw 20 = .ok (.aload 4, 2) := by decide +kernel
theorem dX9_draw_22 : decode cX9_draw 22 = .ok (.bipush 98, 2) := by decide +kernel
theorem dX9_draw_24 : decode cX9_draw 24 = .ok (.invokestatic 92, 3) := by decide +kernel
theorem dX9_draw_27 : decode cX9_draw 27 = .ok (.aload 4, 2) := by decide +kernel
theorem dX9_draw_29 : decode cX9_draw 29 = .ok (.getfield 144, 3) := by decide +kernel
theorem dX9_draw_32 : decode cX9_draw 32 = .ok (.iload_n 2, 1) := by decide +kernel
theorem dX9_draw_33 : decode cX9_draw 33 = .ok (.invokevirtual 98, 3) := by decide +kernel
theorem dX9_draw_36 : decode cX9_draw 36 = .ok (.ifCond .ne 13, 3) := by decide +kernel
theorem dX9_draw_39 : decode cX9_draw 39 = .ok (.aload 4, 2) := by decide +kernel
theorem dX9_draw_41 : decode cX9_draw 41 = .ok (.invokevirtual 147, 3) := by decide +kernel
theorem dX9_draw_44 : decode cX9_draw 44 = .ok (.bipush 12, 2) := by decide +kernel
theorem dX9_draw_46 : decode cX9_draw 46 = .ok (.invokestatic 50, 3) := by decide +kernel
theorem dX9_draw_49 : decode cX9_draw 49 = .ok (.aload 4, 2) := by decide +kernel
theorem dX9_draw_51 : decode cX9_draw 51 = .ok (.getfield 144, 3) := by decide +kernel
theorem dX9_draw_54 : decode cX9_draw 54 = .ok (.iload_n 2, 1) := by decide +kernel
theorem dX9_draw_55 : decode cX9_draw 55 = .ok (.iload_n 3, 1) := by decide +kernel
theorem dX9_draw_56 : decode cX9_draw 56 = .ok (.invokevirtual 150, 3) := by decide +kernel
theorem dX9_draw_59 : decode cX9_draw 59 = .ok (.aload 4, 2) := by decide +kernel
theorem dX9_draw_61 : decode cX9_draw 61 = .ok (.invokevirtual 147, 3) := by decide +kernel
theorem dX9_draw_64 : decode cX9_draw 64 = .ok (.ireturn, 1) := by decide +kernel
theorem dX9_cover_0 : decode cX9_cover 0 = .ok (.aload_n 0, 1) := by decide +kernel
theorem dX9_cover_1 : decode cX9_cover 1 = .ok (.iload_n 1, 1) := by decide +kernel
theorem dX9_cover_2 : decode cX9_cover 2 = .ok (.invokevirtual 58, 3) := by decide +kernel
theorem dX9_cover_5 : decode cX9_cover 5 = .ok (.astore 4, 2) := by decide +kernel
theorem dX9_cover_7 : decode cX9_cover 7 = .ok (.aload_n 0, 1) := by decide +kernel
theorem dX9_cover_8 : decode cX9_cover 8 = .ok (.iload_n 2, 1) := by decide +kernel
theorem dX9_cover_9 : decode cX9_cover 9 = .ok (.invokevirtual 153, 3) := by decide +kernel
theorem dX9_cover_12 : decode cX9_cover 12 = .ok (.astore 5, 2) := by decide +kernel
theorem dX9_cover_14 : decode cX9_cover 14 = .ok (.iload_n 3, 1) := by decide +kernel
theorem dX9_cover_15 : decode cX9_cover 15 = .ok (.iconst 0, 1) := by decide +kernel
theorem dX9_cover_16 : decode cX9_cover 16 = .ok (.aload 5, 2) := by decide +kernel
theorem dX9_cover_18 : decode cX9_cover 18 = .ok (.getfield 157, 3) := by decide +kernel
theorem dX9_cover_21 : decode cX9_cover 21 = .ok (.iconst 1, 1) := by decide +kernel
theorem dX9_cover_22 : decode cX9_cover 22 = .ok (.isub, 1) := by decide +kernel
theorem dX9_cover_23 : decode cX9_cover 23 = .ok (.invokestatic 42, 3) := by decide +kernel
theorem dX9_cover_26 : decode cX9_cover 26 = .ok (.aload 4, 2) := by decide +kernel
theorem dX9_cover_28 : decode cX9_cover 28 = .ok (.bipush 99, 2) := by decide +kernel
theorem dX9_cover_30 : decode cX9_cover 30 = .ok (.invokestatic 62, 3) := by decide +kernel
theorem dX9_cover_33 : decode cX9_cover 33 = .ok (.aload 4, 2) := by decide +kernel
theorem dX9_cover_35 : decode cX9_cover 35 = .ok (.aload 5, 2) := by decide +kernel
theorem dX9_cover_37 : decode cX9_cover 37 = .ok (.iload_n 3, 1) := by decide +kernel
theorem dX9_cover_38 : decode cX9_cover 38 = .ok (.invokevirtual 162, 3) := by decide +kernel
theorem dX9_cover_41 : decode cX9_cover 41 = .ok (.ifCond .ne 13, 3) := by decide +kernel
theorem dX9_cover_44 : decode cX9_cover 44 = .ok (.new 166, 3) := by decide +kernel
theorem dX9_cover_47 : decode cX9_cover 47 = .ok (.dup, 1) := by decide +kernel
theorem dX9_cover_48 : decode cX9_cover 48 = .ok (.ldc 168, 2) := by decide +kernel
theorem dX9_cover_50 : decode cX9_cover 50 = .ok (.invokespecial 170, 3) := by decide +kernel
theorem dX9_cover_53 : decode cX9_cover 53 = .ok (.athrow, 1) := by decide +kernel
theorem dX9_cover_54 : decode cX9_cover 54 = .ok (.aload 5, 2) := by decide +kernel
theorem dX9_cover_56 : decode cX9_cover 56 = .ok (.getfield 173, 3) := by decide +kernel
theorem dX9_cover_59 : decode cX9_cover 59 = .ok (.ireturn, 1) := by decide +kernel
theorem dX9_sign_0 : decode cX9_sign 0 = .ok (.aload_n 0, 1) := by decide +kernel
theorem dX9_sign_1 : decode cX9_sign 1 = .ok (.iload_n 1, 1) := by decide +kernel
theorem dX9_sign_2 : decode cX9_sign 2 = .ok (.invokevirtual 58, 3) := by decide +kernel
theorem dX9_sign_5 : decode cX9_sign 5 = .ok (.astore_n 2, 1) := by decide +kernel
theorem dX9_sign_6 : decode cX9_sign 6 = .ok (.aload_n 2, 1) := by decide +kernel
theorem dX9_sign_7 : decode cX9_sign 7 = .ok (.getfield 76, 3) := by decide +kernel
theorem dX9_sign_10 : decode cX9_sign 10 = .ok (.invokevirtual 176, 3) := by decide +kernel
theorem dX9_sign_13 : decode cX9_sign 13 = .ok (.ifCond .eq 13, 3) := by decide +kernel
theorem dX9_sign_16 : decode cX9_sign 16 = .ok (.new 180, 3) := by decide +kernel
theorem dX9_sign_19 : decode cX9_sign 19 = .ok (.dup, 1) := by decide +kernel
theorem dX9_sign_20 : decode cX9_sign 20 = .ok (.ldc 182, 2) := by decide +kernel
theorem dX9_sign_22 : decode cX9_sign 22 = .ok (.invokespecial 184, 3) := by decide +kernel
theorem dX9_sign_25 : decode cX9_sign 25 = .ok (.athrow, 1) := by decide +kernel
theorem dX9_sign_26 : decode cX9_sign 26 = .ok (.aload_n 2, 1) := by decide +kernel
theorem dX9_sign_27 : decode cX9_sign 27 = .ok (.getfield 76, 3) := by decide +kernel
theorem dX9_sign_30 : decode cX9_sign 30 = .ok (.invokevirtual 185, 3) := by decide +kernel
theorem dX9_sign_33 : decode cX9_sign 33 = .ok (.ireturn, 1) := by decide +kernel
theorem dX9_isClosed_0 : decode cX9_isClosed 0 = .ok (.aload_n 0, 1) := by decide +kernel
theorem dX9_isClosed_1 : decode cX9_isClosed 1 = .ok (.iload_n 1, 1) := by decide +kernel
theorem dX9_isClosed_2 : decode cX9_isClosed 2 = .ok (.invokevirtual 58, 3) := by decide +kernel
theorem dX9_isClosed_5 : decode cX9_isClosed 5 = .ok (.invokevirtual 204, 3) := by decide +kernel
theorem dX9_isClosed_8 : decode cX9_isClosed 8 = .ok (.ireturn, 1) := by decide +kernel
theorem dX9_stands_0 : decode cX9_stands 0 = .ok (.aload_n 0, 1) := by decide +kernel
theorem dX9_stands_1 : decode cX9_stands 1 = .ok (.iload_n 1, 1) := by decide +kernel
theorem dX9_stands_2 : decode cX9_stands 2 = .ok (.invokevirtual 58, 3) := by decide +kernel
theorem dX9_stands_5 : decode cX9_stands 5 = .ok (.astore_n 3, 1) := by decide +kernel
theorem dX9_stands_6 : decode cX9_stands 6 = .ok (.aload_n 3, 1) := by decide +kernel
theorem dX9_stands_7 : decode cX9_stands 7 = .ok (.iload_n 2, 1) := by decide +kernel
theorem dX9_stands_8 : decode cX9_stands 8 = .ok (.invokestatic 88, 3) := by decide +kernel
theorem dX9_stands_11 : decode cX9_stands 11 = .ok (.aload_n 3, 1) := by decide +kernel
theorem dX9_stands_12 : decode cX9_stands 12 = .ok (.getfield 66, 3) := by decide +kernel
theorem dX9_stands_15 : decode cX9_stands 15 = .ok (.iload_n 2, 1) := by decide +kernel
theorem dX9_stands_16 : decode cX9_stands 16 = .ok (.invokevirtual 207, 3) := by decide +kernel
theorem dX9_stands_19 : decode cX9_stands 19 = .ok (.ireturn, 1) := by decide +kernel
theorem dX9_thick_0 : decode cX9_thick 0 = .ok (.aload_n 0, 1) := by decide +kernel
theorem dX9_thick_1 : decode cX9_thick 1 = .ok (.iload_n 1, 1) := by decide +kernel
theorem dX9_thick_2 : decode cX9_thick 2 = .ok (.invokevirtual 58, 3) := by decide +kernel
theorem dX9_thick_5 : decode cX9_thick 5 = .ok (.iload_n 2, 1) := by decide +kernel
theorem dX9_thick_6 : decode cX9_thick 6 = .ok (.invokestatic 210, 3) := by decide +kernel
theorem dX9_thick_9 : decode cX9_thick 9 = .ok (.getfield 214, 3) := by decide +kernel
theorem dX9_thick_12 : decode cX9_thick 12 = .ok (.ireturn, 1) := by decide +kernel
theorem dX9_top_0 : decode cX9_top 0 = .ok (.aload_n 0, 1) := by decide +kernel
theorem dX9_top_1 : decode cX9_top 1 = .ok (.iload_n 1, 1) := by decide +kernel
theorem dX9_top_2 : decode cX9_top 2 = .ok (.invokevirtual 58, 3) := by decide +kernel
theorem dX9_top_5 : decode cX9_top 5 = .ok (.astore_n 3, 1) := by decide +kernel
theorem dX9_top_6 : decode cX9_top 6 = .ok (.aload_n 3, 1) := by decide +kernel
theorem dX9_top_7 : decode cX9_top 7 = .ok (.iload_n 2, 1) := by decide +kernel
theorem dX9_top_8 : decode cX9_top 8 = .ok (.invokestatic 88, 3) := by decide +kernel
theorem dX9_top_11 : decode cX9_top 11 = .ok (.aload_n 3, 1) := by decide +kernel
theorem dX9_top_12 : decode cX9_top 12 = .ok (.iload_n 2, 1) := by decide +kernel
theorem dX9_top_13 : decode cX9_top 13 = .ok (.invokevirtual 217, 3) := by decide +kernel
theorem dX9_top_16 : decode cX9_top 16 = .ok (.ireturn, 1) := by decide +kernel
theorem dX9_folds_0 : decode cX9_folds 0 = .ok (.aload_n 0, 1) := by decide +kernel
theorem dX9_folds_1 : decode cX9_folds 1 = .ok (.iload_n 1, 1) := by decide +kernel
theorem dX9_folds_2 : decode cX9_folds 2 = .ok (.invokevirtual 58, 3) := by decide +kernel
theorem dX9_folds_5 : decode cX9_folds 5 = .ok (.iload_n 2, 1) := by decide +kernel
theorem dX9_folds_6 : decode cX9_folds 6 = .ok (.invokevirtual 220, 3) := by decide +kernel
theorem dX9_folds_9 : decode cX9_folds 9 = .ok (.ireturn, 1) := by decide +kernel
theorem dX9_cloth_0 : decode cX9_cloth 0 = .ok (.iload_n 1, 1) := by decide +kernel
theorem dX9_cloth_1 : decode cX9_cloth 1 = .ok (.bipush 50, 2) := by decide +kernel
theorem dX9_cloth_3 : decode cX9_cloth 3 = .ok (.sipush 2000, 3) := by decide +kernel
theorem dX9_cloth_6 : decode cX9_cloth 6 = .ok (.invokestatic 42, 3) := by decide +kernel
theorem dX9_cloth_9 : decode cX9_cloth 9 = .ok (.iload_n 2, 1) := by decide +kernel
theorem dX9_cloth_10 : decode cX9_cloth 10 = .ok (.iconst 1, 1) := by decide +kernel
theorem dX9_cloth_11 : decode cX9_cloth 11 = .ok (.bipush 60, 2) := by decide +kernel
theorem dX9_cloth_13 : decode cX9_cloth 13 = .ok (.invokestatic 42, 3) := by decide +kernel
theorem dX9_cloth_16 : decode cX9_cloth 16 = .ok (.aload_n 0, 1) := by decide +kernel
theorem dX9_cloth_17 : decode cX9_cloth 17 = .ok (.getfield 19, 3) := by decide +kernel
theorem dX9_cloth_20 : decode cX9_cloth 20 = .ok (.invokevirtual 46, 3) := by decide +kernel
theorem dX9_cloth_23 : decode cX9_cloth 23 = .ok (.iconst 4, 1) := by decide +kernel
theorem dX9_cloth_24 : decode cX9_cloth 24 = .ok (.invokestatic 50, 3) := by decide +kernel
theorem dX9_cloth_27 : decode cX9_cloth 27 = .ok (.aload_n 0, 1) := by decide +kernel
theorem dX9_cloth_28 : decode cX9_cloth 28 = .ok (.getfield 19, 3) := by decide +kernel
theorem dX9_cloth_31 : decode cX9_cloth 31 = .ok (.new 158, 3) := by decide +kernel
theorem dX9_cloth_34 : decode cX9_cloth 34 = .ok (.dup, 1) := by decide +kernel
theorem dX9_cloth_35 : decode cX9_cloth 35 = .ok (.iload_n 1, 1) := by decide +kernel
theorem dX9_cloth_36 : decode cX9_cloth 36 = .ok (.iload_n 2, 1) := by decide +kernel
theorem dX9_cloth_37 : decode cX9_cloth 37 = .ok (.invokespecial 251, 3) := by decide +kernel
theorem dX9_cloth_40 : decode cX9_cloth 40 = .ok (.invokevirtual 38, 3) := by decide +kernel
theorem dX9_cloth_43 : decode cX9_cloth 43 = .ok (.pop, 1) := by decide +kernel
theorem dX9_cloth_44 : decode cX9_cloth 44 = .ok (.aload_n 0, 1) := by decide +kernel
theorem dX9_cloth_45 : decode cX9_cloth 45 = .ok (.getfield 19, 3) := by decide +kernel
theorem dX9_cloth_48 : decode cX9_cloth 48 = .ok (.invokevirtual 46, 3) := by decide +kernel
theorem dX9_cloth_51 : decode cX9_cloth 51 = .ok (.iconst 1, 1) := by decide +kernel
theorem dX9_cloth_52 : decode cX9_cloth 52 = .ok (.isub, 1) := by decide +kernel
theorem dX9_cloth_53 : decode cX9_cloth 53 = .ok (.ireturn, 1) := by decide +kernel
theorem dX9_use_0 : decode cX9_use 0 = .ok (.aload_n 0, 1) := by decide +kernel
theorem dX9_use_1 : decode cX9_use 1 = .ok (.iload_n 1, 1) := by decide +kernel
theorem dX9_use_2 : decode cX9_use 2 = .ok (.invokevirtual 58, 3) := by decide +kernel
theorem dX9_use_5 : decode cX9_use 5 = .ok (.astore_n 3, 1) := by decide +kernel
theorem dX9_use_6 : decode cX9_use 6 = .ok (.iload_n 2, 1) := by decide +kernel
theorem dX9_use_7 : decode cX9_use 7 = .ok (.iconst 1, 1) := by decide +kernel
theorem dX9_use_8 : decode cX9_use 8 = .ok (.sipush 9999, 3) := by decide +kernel
theorem dX9_use_11 : decode cX9_use 11 = .ok (.invokestatic 42, 3) := by decide +kernel
theorem dX9_use_14 : decode cX9_use 14 = .ok (.aload_n 3, 1) := by decide +kernel
theorem dX9_use_15 : decode cX9_use 15 = .ok (.iload_n 2, 1) := by decide +kernel
theorem dX9_use_16 : decode cX9_use 16 = .ok (.invokestatic 279, 3) := by decide +kernel
theorem dX9_use_19 : decode cX9_use 19 = .ok (.aload_n 3, 1) := by decide +kernel
theorem dX9_use_20 : decode cX9_use 20 = .ok (.iload_n 2, 1) := by decide +kernel
theorem dX9_use_21 : decode cX9_use 21 = .ok (.invokevirtual 282, 3) := by decide +kernel
theorem dX9_use_24 : decode cX9_use 24 = .ok (.ireturn, 1) := by decide +kernel
theorem dX9_pound_0 : decode cX9_pound 0 = .ok (.aload_n 0, 1) := by decide +kernel
theorem dX9_pound_1 : decode cX9_pound 1 = .ok (.iload_n 1, 1) := by decide +kernel
theorem dX9_pound_2 : decode cX9_pound 2 = .ok (.invokevirtual 58, 3) := by decide +kernel
theorem dX9_pound_5 : decode cX9_pound 5 = .ok (.astore_n 3, 1) := by decide +kernel
theorem dX9_pound_6 : decode cX9_pound 6 = .ok (.iload_n 2, 1) := by decide +kernel
theorem dX9_pound_7 : decode cX9_pound 7 = .ok (.iconst 1, 1) := by decide +kernel
theorem dX9_pound_8 : decode cX9_pound 8 = .ok (.sipush 3000, 3) := by decide +kernel
theorem dX9_pound_11 : decode cX9_pound 11 = .ok (.invokestatic 42, 3) := by decide +kernel
theorem dX9_pound_14 : decode cX9_pound 14 = .ok (.aload_n 3, 1) := by decide +kernel
theorem dX9_pound_15 : decode cX9_pound 15 = .ok (.iload_n 2, 1) := by decide +kernel
theorem dX9_pound_16 : decode cX9_pound 16 = .ok (.iconst 3, 1) := by decide +kernel
theorem dX9_pound_17 : decode cX9_pound 17 = .ok (.imul, 1) := by decide +kernel
theorem dX9_pound_18 : decode cX9_pound 18 = .ok (.invokestatic 279, 3) := by decide +kernel
theorem dX9_pound_21 : decode cX9_pound 21 = .ok (.aload_n 3, 1) := by decide +kernel
theorem dX9_pound_22 : decode cX9_pound 22 = .ok (.iload_n 2, 1) := by decide +kernel
theorem dX9_pound_23 : decode cX9_pound 23 = .ok (.iconst 3, 1) := by decide +kernel
theorem dX9_pound_24 : decode cX9_pound 24 = .ok (.imul, 1) := by decide +kernel
theorem dX9_pound_25 : decode cX9_pound 25 = .ok (.invokevirtual 282, 3) := by decide +kernel
theorem dX9_pound_28 : decode cX9_pound 28 = .ok (.ireturn, 1) := by decide +kernel
theorem dX9_hours_0 : decode cX9_hours 0 = .ok (.aload_n 0, 1) := by decide +kernel
theorem dX9_hours_1 : decode cX9_hours 1 = .ok (.iload_n 1, 1) := by decide +kernel
theorem dX9_hours_2 : decode cX9_hours 2 = .ok (.invokevirtual 58, 3) := by decide +kernel
theorem dX9_hours_5 : decode cX9_hours 5 = .ok (.astore_n 2, 1) := by decide +kernel
theorem dX9_hours_6 : decode cX9_hours 6 = .ok (.aload_n 2, 1) := by decide +kernel
theorem dX9_hours_7 : decode cX9_hours 7 = .ok (.invokestatic 285, 3) := by decide +kernel
theorem dX9_hours_10 : decode cX9_hours 10 = .ok (.aload_n 2, 1) := by decide +kernel
theorem dX9_hours_11 : decode cX9_hours 11 = .ok (.getfield 267, 3) := by decide +kernel
theorem dX9_hours_14 : decode cX9_hours 14 = .ok (.getfield 288, 3) := by decide +kernel
theorem dX9_hours_17 : decode cX9_hours 17 = .ok (.ireturn, 1) := by decide +kernel
theorem dX9_promise_0 : decode cX9_promise 0 = .ok (.aload_n 0, 1) := by decide +kernel
theorem dX9_promise_1 : decode cX9_promise 1 = .ok (.iload_n 1, 1) := by decide +kernel
theorem dX9_promise_2 : decode cX9_promise 2 = .ok (.invokevirtual 58, 3) := by decide +kernel
theorem dX9_promise_5 : decode cX9_promise 5 = .ok (.astore_n 3, 1) := by decide +kernel
theorem dX9_promise_6 : decode cX9_promise 6 = .ok (.iload_n 2, 1) := by decide +kernel
theorem dX9_promise_7 : decode cX9_promise 7 = .ok (.iconst 0, 1) := by decide +kernel
theorem dX9_promise_8 : decode cX9_promise 8 = .ok (.bipush 100, 2) := by decide +kernel
theorem dX9_promise_10 : decode cX9_promise 10 = .ok (.invokestatic 42, 3) := by decide +kernel
theorem dX9_promise_13 : decode cX9_promise 13 = .ok (.aload_n 3, 1) := by decide +kernel
theorem dX9_promise_14 : decode cX9_promise 14 = .ok (.getfield 318, 3) := by decide +kernel
theorem dX9_promise_17 : decode cX9_promise 17 = .ok (.istore 4, 2) := by decide +kernel
theorem dX9_promise_19 : decode cX9_promise 19 = .ok (.aload_n 3, 1) := by decide +kernel
theorem dX9_promise_20 : decode cX9_promise 20 = .ok (.iload_n 2, 1) := by decide +kernel
theorem dX9_promise_21 : decode cX9_promise 21 = .ok (.putfield 318, 3) := by decide +kernel
theorem dX9_promise_24 : decode cX9_promise 24 = .ok (.iload 4, 2) := by decide +kernel
theorem dX9_promise_26 : decode cX9_promise 26 = .ok (.ireturn, 1) := by decide +kernel
theorem dX9_holds_0 : decode cX9_holds 0 = .ok (.aload_n 0, 1) := by decide +kernel
theorem dX9_holds_1 : decode cX9_holds 1 = .ok (.iload_n 1, 1) := by decide +kernel
theorem dX9_holds_2 : decode cX9_holds 2 = .ok (.invokevirtual 58, 3) := by decide +kernel
theorem dX9_holds_5 : decode cX9_holds 5 = .ok (.astore_n 2, 1) := by decide +kernel
theorem dX9_holds_6 : decode cX9_holds 6 = .ok (.aload_n 2, 1) := by decide +kernel
theorem dX9_holds_7 : decode cX9_holds 7 = .ok (.invokestatic 285, 3) := by decide +kernel
theorem dX9_holds_10 : decode cX9_holds 10 = .ok (.aload_n 2, 1) := by decide +kernel
theorem dX9_holds_11 : decode cX9_holds 11 = .ok (.getfield 267, 3) := by decide +kernel
theorem dX9_holds_14 : decode cX9_holds 14 = .ok (.getfield 321, 3) := by decide +kernel
theorem dX9_holds_17 : decode cX9_holds 17 = .ok (.aload_n 2, 1) := by decide +kernel
theorem dX9_holds_18 : decode cX9_holds 18 = .ok (.invokevirtual 324, 3) := by decide +kernel
theorem dX9_holds_21 : decode cX9_holds 21 = .ok (.isub, 1) := by decide +kernel
theorem dX9_holds_22 : decode cX9_holds 22 = .ok (.istore_n 3, 1) := by decide +kernel
theorem dX9_holds_23 : decode cX9_holds 23 = .ok (.iload_n 3, 1) := by decide +kernel
theorem dX9_holds_24 : decode cX9_holds 24 = .ok (.aload_n 2, 1) := by decide +kernel
theorem dX9_holds_25 : decode cX9_holds 25 = .ok (.getfield 267, 3) := by decide +kernel
theorem dX9_holds_28 : decode cX9_holds 28 = .ok (.getfield 321, 3) := by decide +kernel
theorem dX9_holds_31 : decode cX9_holds 31 = .ok (.aload_n 2, 1) := by decide +kernel
theorem dX9_holds_32 : decode cX9_holds 32 = .ok (.getfield 318, 3) := by decide +kernel
theorem dX9_holds_35 : decode cX9_holds 35 = .ok (.imul, 1) := by decide +kernel
theorem dX9_holds_36 : decode cX9_holds 36 = .ok (.bipush 100, 2) := by decide +kernel
theorem dX9_holds_38 : decode cX9_holds 38 = .ok (.idiv, 1) := by decide +kernel
theorem dX9_holds_39 : decode cX9_holds 39 = .ok (.if_icmp .gt 7, 3) := by decide +kernel
theorem dX9_holds_42 : decode cX9_holds 42 = .ok (.iconst 1, 1) := by decide +kernel
theorem dX9_holds_43 : decode cX9_holds 43 = .ok (.goto 4, 3) := by decide +kernel
theorem dX9_holds_46 : decode cX9_holds 46 = .ok (.iconst 0, 1) := by decide +kernel
theorem dX9_holds_47 : decode cX9_holds 47 = .ok (.ireturn, 1) := by decide +kernel
theorem dX9_quote_0 : decode cX9_quote 0 = .ok (.aload_n 0, 1) := by decide +kernel
theorem dX9_quote_1 : decode cX9_quote 1 = .ok (.iload_n 1, 1) := by decide +kernel
theorem dX9_quote_2 : decode cX9_quote 2 = .ok (.invokevirtual 58, 3) := by decide +kernel
theorem dX9_quote_5 : decode cX9_quote 5 = .ok (.invokevirtual 327, 3) := by decide +kernel
theorem dX9_quote_8 : decode cX9_quote 8 = .ok (.ireturn, 1) := by decide +kernel
theorem dX9_closedShare_0 : decode cX9_closedShare 0 = .ok (.aload_n 0, 1) := by decide +kernel
theorem dX9_closedShare_1 : decode cX9_closedShare 1 = .ok (.getfield 10, 3) := by decide +kernel
theorem dX9_closedShare_4 : decode cX9_closedShare 4 = .ok (.invokevirtual 338, 3) := by decide +kernel
theorem dX9_closedShare_7 : decode cX9_closedShare 7 = .ok (.ifCond .eq 14, 3) := by decide +kernel
theorem dX9_closedShare_10 : decode cX9_closedShare 10 = .ok (.new 166, 3) := by decide +kernel
theorem dX9_closedShare_13 : decode cX9_closedShare 13 = .ok (.dup, 1) := by decide +kernel
theorem dX9_closedShare_14 : decode cX9_closedShare 14 = .ok (.ldc_w 341, 3) := by decide +kernel
theorem dX9_closedShare_17 : decode cX9_closedShare 17 = .ok (.invokespecial 170, 3) := by decide +kernel
theorem dX9_closedShare_20 : decode cX9_closedShare 20 = .ok (.athrow, 1) := by decide +kernel
theorem dX9_closedShare_21 : decode cX9_closedShare 21 = .ok (.iconst 0, 1) := by decide +kernel
theorem dX9_closedShare_22 : decode cX9_closedShare 22 = .ok (.istore_n 1, 1) := by decide +kernel
theorem dX9_closedShare_23 : decode cX9_closedShare 23 = .ok (.iconst 0, 1) := by decide +kernel
theorem dX9_closedShare_24 : decode cX9_closedShare 24 = .ok (.istore_n 2, 1) := by decide +kernel
theorem dX9_closedShare_25 : decode cX9_closedShare 25 = .ok (.iload_n 2, 1) := by decide +kernel
theorem dX9_closedShare_26 : decode cX9_closedShare 26 = .ok (.aload_n 0, 1) := by decide +kernel
theorem dX9_closedShare_27 : decode cX9_closedShare 27 = .ok (.getfield 10, 3) := by decide +kernel
theorem dX9_closedShare_30 : decode cX9_closedShare 30 = .ok (.invokevirtual 46, 3) := by decide +kernel
theorem dX9_closedShare_33 : decode cX9_closedShare 33 = .ok (.if_icmp .ge 29, 3) := by decide +kernel
theorem dX9_closedShare_36 : decode cX9_closedShare 36 = .ok (.aload_n 0, 1) := by decide +kernel
theorem dX9_closedShare_37 : decode cX9_closedShare 37 = .ok (.getfield 10, 3) := by decide +kernel
theorem dX9_closedShare_40 : decode cX9_closedShare 40 = .ok (.iload_n 2, 1) := by decide +kernel
theorem dX9_closedShare_41 : decode cX9_closedShare 41 = .ok (.invokevirtual 332, 3) := by decide +kernel
theorem dX9_closedShare_44 : decode cX9_closedShare 44 = .ok (.checkcast 54, 3) := by decide +kernel
theorem dX9_closedShare_47 : decode cX9_closedShare 47 = .ok (.invokevirtual 204, 3) := by decide +kernel
theorem dX9_closedShare_50 : decode cX9_closedShare 50 = .ok (.ifCond .eq 6, 3) := by decide +kernel
theorem dX9_closedShare_53 : decode cX9_closedShare 53 = .ok (.iinc 1 1, 3) := by decide +kernel
theorem dX9_closedShare_56 : decode cX9_closedShare 56 = .ok (.iinc 2 1, 3) := by decide +kernel
theorem dX9_closedShare_59 : decode cX9_closedShare 59 = .ok (.goto (-34), 3) := by decide +kernel
theorem dX9_closedShare_62 : decode cX9_closedShare 62 = .ok (.iload_n 1, 1) := by decide +kernel
theorem dX9_closedShare_63 : decode cX9_closedShare 63 = .ok (.i2f, 1) := by decide +kernel
theorem dX9_closedShare_64 : decode cX9_closedShare 64 = .ok (.aload_n 0, 1) := by decide +kernel
theorem dX9_closedShare_65 : decode cX9_closedShare 65 = .ok (.getfield 10, 3) := by decide +kernel
theorem dX9_closedShare_68 : decode cX9_closedShare 68 = .ok (.invokevirtual 46, 3) := by decide +kernel
theorem dX9_closedShare_71 : decode cX9_closedShare 71 = .ok (.i2f, 1) := by decide +kernel
theorem dX9_closedShare_72 : decode cX9_closedShare 72 = .ok (.fdiv, 1) := by decide +kernel
theorem dX9_closedShare_73 : decode cX9_closedShare 73 = .ok (.freturn, 1) := by decide +kernel
theorem dX9_meanTop_0 : decode cX9_meanTop 0 = .ok (.aload_n 0, 1) := by decide +kernel
theorem dX9_meanTop_1 : decode cX9_meanTop 1 = .ok (.iload_n 1, 1) := by decide +kernel
theorem dX9_meanTop_2 : decode cX9_meanTop 2 = .ok (.invokevirtual 58, 3) := by decide +kernel
theorem dX9_meanTop_5 : decode cX9_meanTop 5 = .ok (.astore_n 2, 1) := by decide +kernel
theorem dX9_meanTop_6 : decode cX9_meanTop 6 = .ok (.aload_n 2, 1) := by decide +kernel
theorem dX9_meanTop_7 : decode cX9_meanTop 7 = .ok (.invokevirtual 324, 3) := by decide +kernel
theorem dX9_meanTop_10 : decode cX9_meanTop 10 = .ok (.i2d, 1) := by decide +kernel
theorem dX9_meanTop_11 : decode cX9_meanTop 11 = .ok (.aload_n 2, 1) := by decide +kernel
theorem dX9_meanTop_12 : decode cX9_meanTop 12 = .ok (.getfield 66, 3) := by decide +kernel
theorem dX9_meanTop_15 : decode cX9_meanTop 15 = .ok (.invokevirtual 245, 3) := by decide +kernel
theorem dX9_meanTop_18 : decode cX9_meanTop 18 = .ok (.i2d, 1) := by decide +kernel
theorem dX9_meanTop_19 : decode cX9_meanTop 19 = .ok (.ddiv, 1) := by decide +kernel
theorem dX9_meanTop_20 : decode cX9_meanTop 20 = .ok (.dreturn, 1) := by decide +kernel
theorem dX9_isSound_0 : decode cX9_isSound 0 = .ok (.iconst 0, 1) := by decide +kernel
theorem dX9_isSound_1 : decode cX9_isSound 1 = .ok (.istore_n 1, 1) := by decide +kernel
theorem dX9_isSound_2 : decode cX9_isSound 2 = .ok (.iload_n 1, 1) := by decide +kernel
theorem dX9_isSound_3 : decode cX9_isSound 3 = .ok (.aload_n 0, 1) := by decide +kernel
theorem dX9_isSound_4 : decode cX9_isSound 4 = .ok (.getfield 10, 3) := by decide +kernel
theorem dX9_isSound_7 : decode cX9_isSound 7 = .ok (.invokevirtual 46, 3) := by decide +kernel
theorem dX9_isSound_10 : decode cX9_isSound 10 = .ok (.if_icmp .ge 69, 3) := by decide +kernel
theorem dX9_isSound_13 : decode cX9_isSound 13 = .ok (.aload_n 0, 1) := by decide +kernel
theorem dX9_isSound_14 : decode cX9_isSound 14 = .ok (.getfield 10, 3) := by decide +kernel
theorem dX9_isSound_17 : decode cX9_isSound 17 = .ok (.iload_n 1, 1) := by decide +kernel
theorem dX9_isSound_18 : decode cX9_isSound 18 = .ok (.invokevirtual 332, 3) := by decide +kernel
theorem dX9_isSound_21 : decode cX9_isSound 21 = .ok (.checkcast 54, 3) := by decide +kernel
theorem dX9_isSound_24 : decode cX9_isSound 24 = .ok (.astore_n 2, 1) := by decide +kernel
theorem dX9_isSound_25 : decode cX9_isSound 25 = .ok (.aload_n 2, 1) := by decide +kernel
theorem dX9_isSound_26 : decode cX9_isSound 26 = .ok (.getfield 76, 3) := by decide +kernel
theorem dX9_isSound_29 : decode cX9_isSound 29 = .ok (.invokevirtual 343, 3) := by decide +kernel
theorem dX9_isSound_32 : decode cX9_isSound 32 = .ok (.ifCond .eq 39, 3) := by decide +kernel
theorem dX9_isSound_35 : decode cX9_isSound 35 = .ok (.aload_n 2, 1) := by decide +kernel
theorem dX9_isSound_36 : decode cX9_isSound 36 = .ok (.invokevirtual 346, 3) := by decide +kernel
theorem dX9_isSound_39 : decode cX9_isSound 39 = .ok (.ifCond .eq 32, 3) := by decide +kernel
theorem dX9_isSound_42 : decode cX9_isSound 42 = .ok (.aload_n 2, 1) := by decide +kernel
theorem dX9_isSound_43 : decode cX9_isSound 43 = .ok (.getfield 267, 3) := by decide +kernel
theorem dX9_isSound_46 : decode cX9_isSound 46 = .ok (.invokevirtual 349, 3) := by decide +kernel
theorem dX9_isSound_49 : decode cX9_isSound 49 = .ok (.ifCond .eq 22, 3) := by decide +kernel
theorem dX9_isSound_52 : decode cX9_isSound 52 = .ok (.aload_n 0, 1) := by decide +kernel
theorem dX9_isSound_53 : decode cX9_isSound 53 = .ok (.aload_n 2, 1) := by decide +kernel
theorem dX9_isSound_54 : decode cX9_isSound 54 = .ok (.getfield 267, 3) := by decide +kernel
theorem dX9_isSound_57 : decode cX9_isSound 57 = .ok (.invokevirtual 352, 3) := by decide +kernel
theorem dX9_isSound_60 : decode cX9_isSound 60 = .ok (.ifCond .eq 11, 3) := by decide +kernel
theorem dX9_isSound_63 : decode cX9_isSound 63 = .ok (.aload_n 0, 1) := by decide +kernel
theorem dX9_isSound_64 : decode cX9_isSound 64 = .ok (.aload_n 2, 1) := by decide +kernel
theorem dX9_isSound_65 : decode cX9_isSound 65 = .ok (.invokevirtual 356, 3) := by decide +kernel
theorem dX9_isSound_68 : decode cX9_isSound 68 = .ok (.ifCond .ne 5, 3) := by decide +kernel
theorem dX9_isSound_71 : decode cX9_isSound 71 = .ok (.iconst 0, 1) := by decide +kernel
theorem dX9_isSound_72 : decode cX9_isSound 72 = .ok (.ireturn, 1) := by decide +kernel
theorem dX9_isSound_73 : decode cX9_isSound 73 = .ok (.iinc 1 1, 3) := by decide +kernel
theorem dX9_isSound_76 : decode cX9_isSound 76 = .ok (.goto (-74), 3) := by decide +kernel
theorem dX9_isSound_79 : decode cX9_isSound 79 = .ok (.iconst 1, 1) := by decide +kernel
theorem dX9_isSound_80 : decode cX9_isSound 80 = .ok (.ireturn, 1) := by decide +kernel
theorem dX9_liesApart_0 : decode cX9_liesApart 0 = .ok (.iconst 0, 1) := by decide +kernel
theorem dX9_liesApart_1 : decode cX9_liesApart 1 = .ok (.istore_n 2, 1) := by decide +kernel
theorem dX9_liesApart_2 : decode cX9_liesApart 2 = .ok (.iload_n 2, 1) := by decide +kernel
theorem dX9_liesApart_3 : decode cX9_liesApart 3 = .ok (.aload_n 0, 1) := by decide +kernel
theorem dX9_liesApart_4 : decode cX9_liesApart 4 = .ok (.getfield 10, 3) := by decide +kernel
theorem dX9_liesApart_7 : decode cX9_liesApart 7 = .ok (.invokevirtual 46, 3) := by decide +kernel
theorem dX9_liesApart_10 : decode cX9_liesApart 10 = .ok (.if_icmp .ge 32, 3) := by decide +kernel
theorem dX9_liesApart_13 : decode cX9_liesApart 13 = .ok (.aload_n 1, 1) := by decide +kernel
theorem dX9_liesApart_14 : decode cX9_liesApart 14 = .ok (.aload_n 0, 1) := by decide +kernel
theorem dX9_liesApart_15 : decode cX9_liesApart 15 = .ok (.getfield 10, 3) := by decide +kernel
theorem dX9_liesApart_18 : decode cX9_liesApart 18 = .ok (.iload_n 2, 1) := by decide +kernel
theorem dX9_liesApart_19 : decode cX9_liesApart 19 = .ok (.invokevirtual 332, 3) := by decide +kernel
theorem dX9_liesApart_22 : decode cX9_liesApart 22 = .ok (.checkcast 54, 3) := by decide +kernel
theorem dX9_liesApart_25 : decode cX9_liesApart 25 = .ok (.getfield 267, 3) := by decide +kernel
theorem dX9_liesApart_28 : decode cX9_liesApart 28 = .ok (.invokevirtual 360, 3) := by decide +kernel
theorem dX9_liesApart_31 : decode cX9_liesApart 31 = .ok (.ifCond .eq 5, 3) := by decide +kernel
theorem dX9_liesApart_34 : decode cX9_liesApart 34 = .ok (.iconst 0, 1) := by decide +kernel
theorem dX9_liesApart_35 : decode cX9_liesApart 35 = .ok (.ireturn, 1) := by decide +kernel
theorem dX9_liesApart_36 : decode cX9_liesApart 36 = .ok (.iinc 2 1, 3) := by decide +kernel
theorem dX9_liesApart_39 : decode cX9_liesApart 39 = .ok (.goto (-37), 3) := by decide +kernel
theorem dX9_liesApart_42 : decode cX9_liesApart 42 = .ok (.iconst 1, 1) := by decide +kernel
theorem dX9_liesApart_43 : decode cX9_liesApart 43 = .ok (.ireturn, 1) := by decide +kernel
theorem dX9_sinksSoundly_0 : decode cX9_sinksSoundly 0 = .ok (.iconst 0, 1) := by decide +kernel
theorem dX9_sinksSoundly_1 : decode cX9_sinksSoundly 1 = .ok (.istore_n 2, 1) := by decide +kernel
theorem dX9_sinksSoundly_2 : decode cX9_sinksSoundly 2 = .ok (.iload_n 2, 1) := by decide +kernel
theorem dX9_sinksSoundly_3 : decode cX9_sinksSoundly 3 = .ok (.aload_n 0, 1) := by decide +kernel
theorem dX9_sinksSoundly_4 : decode cX9_sinksSoundly 4 = .ok (.getfield 16, 3) := by decide +kernel
theorem dX9_sinksSoundly_7 : decode cX9_sinksSoundly 7 = .ok (.invokevirtual 46, 3) := by decide +kernel
theorem dX9_sinksSoundly_10 : decode cX9_sinksSoundly 10 = .ok (.if_icmp .ge 41, 3) := by decide +kernel
theorem dX9_sinksSoundly_13 : decode cX9_sinksSoundly 13 = .ok (.aload_n 1, 1) := by decide +kernel
theorem dX9_sinksSoundly_14 : decode cX9_sinksSoundly 14 = .ok (.aload_n 0, 1) := by decide +kernel
theorem dX9_sinksSoundly_15 : decode cX9_sinksSoundly 15 = .ok (.getfield 16, 3) := by decide +kernel
theorem dX9_sinksSoundly_18 : decode cX9_sinksSoundly 18 = .ok (.iload_n 2, 1) := by decide +kernel
theorem dX9_sinksSoundly_19 : decode cX9_sinksSoundly 19 = .ok (.invokevirtual 332, 3) := by decide +kernel
theorem dX9_sinksSoundly_22 : decode cX9_sinksSoundly 22 = .ok (.checkcast 25, 3) := by decide +kernel
theorem dX9_sinksSoundly_25 : decode cX9_sinksSoundly 25 = .ok (.aload_n 0, 1) := by decide +kernel
theorem dX9_sinksSoundly_26 : decode cX9_sinksSoundly 26 = .ok (.getfield 28, 3) := by decide +kernel
theorem dX9_sinksSoundly_29 : decode cX9_sinksSoundly 29 = .ok (.invokevirtual 237, 3) := by decide +kernel
theorem dX9_sinksSoundly_32 : decode cX9_sinksSoundly 32 = .ok (.aload_n 1, 1) := by decide +kernel
theorem dX9_sinksSoundly_33 : decode cX9_sinksSoundly 33 = .ok (.aload_n 0, 1) := by decide +kernel
theorem dX9_sinksSoundly_34 : decode cX9_sinksSoundly 34 = .ok (.getfield 28, 3) := by decide +kernel
theorem dX9_sinksSoundly_37 : decode cX9_sinksSoundly 37 = .ok (.invokevirtual 363, 3) := by decide +kernel
theorem dX9_sinksSoundly_40 : decode cX9_sinksSoundly 40 = .ok (.ifCond .ne 5, 3) := by decide +kernel
theorem dX9_sinksSoundly_43 : decode cX9_sinksSoundly 43 = .ok (.iconst 0, 1) := by decide +kernel
theorem dX9_sinksSoundly_44 : decode cX9_sinksSoundly 44 = .ok (.ireturn, 1) := by decide +kernel
theorem dX9_sinksSoundly_45 : decode cX9_sinksSoundly 45 = .ok (.iinc 2 1, 3) := by decide +kernel
theorem dX9_sinksSoundly_48 : decode cX9_sinksSoundly 48 = .ok (.goto (-46), 3) := by decide +kernel
theorem dX9_sinksSoundly_51 : decode cX9_sinksSoundly 51 = .ok (.iconst 1, 1) := by decide +kernel
theorem dX9_sinksSoundly_52 : decode cX9_sinksSoundly 52 = .ok (.ireturn, 1) := by decide +kernel
theorem dX9_quotient_0 : decode cX9_quotient 0 = .ok (.lload_n 2, 1) := by decide +kernel
theorem dX9_quotient_1 : decode cX9_quotient 1 = .ok (.lconst 0, 1) := by decide +kernel
theorem dX9_quotient_2 : decode cX9_quotient 2 = .ok (.lcmp, 1) := by decide +kernel
theorem dX9_quotient_3 : decode cX9_quotient 3 = .ok (.ifCond .ne 7, 3) := by decide +kernel
theorem dX9_quotient_6 : decode cX9_quotient 6 = .ok (.iconst 0, 1) := by decide +kernel
theorem dX9_quotient_7 : decode cX9_quotient 7 = .ok (.goto 7, 3) := by decide +kernel
theorem dX9_quotient_10 : decode cX9_quotient 10 = .ok (.lload_n 0, 1) := by decide +kernel
theorem dX9_quotient_11 : decode cX9_quotient 11 = .ok (.lload_n 2, 1) := by decide +kernel
theorem dX9_quotient_12 : decode cX9_quotient 12 = .ok (.ldiv, 1) := by decide +kernel
theorem dX9_quotient_13 : decode cX9_quotient 13 = .ok (.l2i, 1) := by decide +kernel
theorem dX9_quotient_14 : decode cX9_quotient 14 = .ok (.ireturn, 1) := by decide +kernel
theorem dX9_seatOf_0 : decode cX9_seatOf 0 = .ok (.iload_n 1, 1) := by decide +kernel
theorem dX9_seatOf_1 : decode cX9_seatOf 1 = .ok (.aload_n 0, 1) := by decide +kernel
theorem dX9_seatOf_2 : decode cX9_seatOf 2 = .ok (.getfield 10, 3) := by decide +kernel
theorem dX9_seatOf_5 : decode cX9_seatOf 5 = .ok (.invokevirtual 46, 3) := by decide +kernel
theorem dX9_seatOf_8 : decode cX9_seatOf 8 = .ok (.invokestatic 111, 3) := by decide +kernel
theorem dX9_seatOf_11 : decode cX9_seatOf 11 = .ok (.aload_n 0, 1) := by decide +kernel
theorem dX9_seatOf_12 : decode cX9_seatOf 12 = .ok (.getfield 10, 3) := by decide +kernel
theorem dX9_seatOf_15 : decode cX9_seatOf 15 = .ok (.iload_n 1, 1) := by decide +kernel
theorem dX9_seatOf_16 : decode cX9_seatOf 16 = .ok (.invokevirtual 332, 3) := by decide +kernel
theorem dX9_seatOf_19 : decode cX9_seatOf 19 = .ok (.checkcast 54, 3) := by decide +kernel
theorem dX9_seatOf_22 : decode cX9_seatOf 22 = .ok (.areturn, 1) := by decide +kernel
theorem dX9_clothOf_0 : decode cX9_clothOf 0 = .ok (.iload_n 1, 1) := by decide +kernel
theorem dX9_clothOf_1 : decode cX9_clothOf 1 = .ok (.aload_n 0, 1) := by decide +kernel
theorem dX9_clothOf_2 : decode cX9_clothOf 2 = .ok (.getfield 19, 3) := by decide +kernel
theorem dX9_clothOf_5 : decode cX9_clothOf 5 = .ok (.invokevirtual 46, 3) := by decide +kernel
theorem dX9_clothOf_8 : decode cX9_clothOf 8 = .ok (.invokestatic 111, 3) := by decide +kernel
theorem dX9_clothOf_11 : decode cX9_clothOf 11 = .ok (.aload_n 0, 1) := by decide +kernel
theorem dX9_clothOf_12 : decode cX9_clothOf 12 = .ok (.getfield 19, 3) := by decide +kernel
theorem dX9_clothOf_15 : decode cX9_clothOf 15 = .ok (.iload_n 1, 1) := by decide +kernel
theorem dX9_clothOf_16 : decode cX9_clothOf 16 = .ok (.invokevirtual 332, 3) := by decide +kernel
theorem dX9_clothOf_19 : decode cX9_clothOf 19 = .ok (.checkcast 158, 3) := by decide +kernel
theorem dX9_clothOf_22 : decode cX9_clothOf 22 = .ok (.areturn, 1) := by decide +kernel
theorem dX9_layerOf_0 : decode cX9_layerOf 0 = .ok (.iload_n 1, 1) := by decide +kernel
theorem dX9_layerOf_1 : decode cX9_layerOf 1 = .ok (.aload_n 0, 1) := by decide +kernel
theorem dX9_layerOf_2 : decode cX9_layerOf 2 = .ok (.getfield 130, 3) := by decide +kernel
theorem dX9_layerOf_5 : decode cX9_layerOf 5 = .ok (.invokevirtual 302, 3) := by decide +kernel
theorem dX9_layerOf_8 : decode cX9_layerOf 8 = .ok (.invokestatic 194, 3) := by decide +kernel
theorem dX9_layerOf_11 : decode cX9_layerOf 11 = .ok (.aload_n 0, 1) := by decide +kernel
theorem dX9_layerOf_12 : decode cX9_layerOf 12 = .ok (.getfield 130, 3) := by decide +kernel
theorem dX9_layerOf_15 : decode cX9_layerOf 15 = .ok (.getfield 371, 3) := by decide +kernel
theorem dX9_layerOf_18 : decode cX9_layerOf 18 = .ok (.iload_n 1, 1) := by decide +kernel
theorem dX9_layerOf_19 : decode cX9_layerOf 19 = .ok (.invokevirtual 332, 3) := by decide +kernel
theorem dX9_layerOf_22 : decode cX9_layerOf 22 = .ok (.checkcast 134, 3) := by decide +kernel
theorem dX9_layerOf_25 : decode cX9_layerOf 25 = .ok (.areturn, 1) := by decide +kernel
theorem dX9_needIndex_0 : decode cX9_needIndex 0 = .ok (.iload_n 0, 1) := by decide +kernel
theorem dX9_needIndex_1 : decode cX9_needIndex 1 = .ok (.ifCond .lt 8, 3) := by decide +kernel
theorem dX9_needIndex_4 : decode cX9_needIndex 4 = .ok (.iload_n 0, 1) := by decide +kernel
theorem dX9_needIndex_5 : decode cX9_needIndex 5 = .ok (.iload_n 1, 1) := by decide +kernel
theorem dX9_needIndex_6 : decode cX9_needIndex 6 = .ok (.if_icmp .lt 14, 3) := by decide +kernel
theorem dX9_needIndex_9 : decode cX9_needIndex 9 = .ok (.new 374, 3) := by decide +kernel
theorem dX9_needIndex_12 : decode cX9_needIndex 12 = .ok (.dup, 1) := by decide +kernel
theorem dX9_needIndex_13 : decode cX9_needIndex 13 = .ok (.ldc_w 376, 3) := by decide +kernel
theorem dX9_needIndex_16 : decode cX9_needIndex 16 = .ok (.invokespecial 378, 3) := by decide +kernel
theorem dX9_needIndex_19 : decode cX9_needIndex 19 = .ok (.athrow, 1) := by decide +kernel
theorem dX9_needIndex_20 : decode cX9_needIndex 20 = .ok (.return_, 1) := by decide +kernel
theorem dX9_needElement_0 : decode cX9_needElement 0 = .ok (.iload_n 0, 1) := by decide +kernel
theorem dX9_needElement_1 : decode cX9_needElement 1 = .ok (.ifCond .lt 8, 3) := by decide +kernel
theorem dX9_needElement_4 : decode cX9_needElement 4 = .ok (.iload_n 0, 1) := by decide +kernel
theorem dX9_needElement_5 : decode cX9_needElement 5 = .ok (.iload_n 1, 1) := by decide +kernel
theorem dX9_needElement_6 : decode cX9_needElement 6 = .ok (.if_icmp .lt 14, 3) := by decide +kernel
theorem dX9_needElement_9 : decode cX9_needElement 9 = .ok (.new 166, 3) := by decide +kernel
theorem dX9_needElement_12 : decode cX9_needElement 12 = .ok (.dup, 1) := by decide +kernel
theorem dX9_needElement_13 : decode cX9_needElement 13 = .ok (.ldc_w 379, 3) := by decide +kernel
theorem dX9_needElement_16 : decode cX9_needElement 16 = .ok (.invokespecial 170, 3) := by decide +kernel
theorem dX9_needElement_19 : decode cX9_needElement 19 = .ok (.athrow, 1) := by decide +kernel
theorem dX9_needElement_20 : decode cX9_needElement 20 = .ok (.return_, 1) := by decide +kernel
theorem dX9_needCell_0 : decode cX9_needCell 0 = .ok (.iload_n 1, 1) := by decide +kernel
theorem dX9_needCell_1 : decode cX9_needCell 1 = .ok (.aload_n 0, 1) := by decide +kernel
theorem dX9_needCell_2 : decode cX9_needCell 2 = .ok (.getfield 66, 3) := by decide +kernel
theorem dX9_needCell_5 : decode cX9_needCell 5 = .ok (.getfield 105, 3) := by decide +kernel
theorem dX9_needCell_8 : decode cX9_needCell 8 = .ok (.aload_n 0, 1) := by decide +kernel
theorem dX9_needCell_9 : decode cX9_needCell 9 = .ok (.getfield 66, 3) := by decide +kernel
theorem dX9_needCell_12 : decode cX9_needCell 12 = .ok (.getfield 108, 3) := by decide +kernel
theorem dX9_needCell_15 : decode cX9_needCell 15 = .ok (.invokestatic 230, 3) := by decide +kernel
theorem dX9_needCell_18 : decode cX9_needCell 18 = .ok (.return_, 1) := by decide +kernel
theorem dX9_needCellIn_0 : decode cX9_needCellIn 0 = .ok (.iload_n 0, 1) := by decide +kernel
theorem dX9_needCellIn_1 : decode cX9_needCellIn 1 = .ok (.bipush 10, 2) := by decide +kernel
theorem dX9_needCellIn_3 : decode cX9_needCellIn 3 = .ok (.idiv, 1) := by decide +kernel
theorem dX9_needCellIn_4 : decode cX9_needCellIn 4 = .ok (.iload_n 1, 1) := by decide +kernel
theorem dX9_needCellIn_5 : decode cX9_needCellIn 5 = .ok (.invokestatic 111, 3) := by decide +kernel
theorem dX9_needCellIn_8 : decode cX9_needCellIn 8 = .ok (.iload_n 0, 1) := by decide +kernel
theorem dX9_needCellIn_9 : decode cX9_needCellIn 9 = .ok (.bipush 10, 2) := by decide +kernel
theorem dX9_needCellIn_11 : decode cX9_needCellIn 11 = .ok (.irem, 1) := by decide +kernel
theorem dX9_needCellIn_12 : decode cX9_needCellIn 12 = .ok (.iload_n 2, 1) := by decide +kernel
theorem dX9_needCellIn_13 : decode cX9_needCellIn 13 = .ok (.invokestatic 111, 3) := by decide +kernel
theorem dX9_needCellIn_16 : decode cX9_needCellIn 16 = .ok (.return_, 1) := by decide +kernel
theorem dX9_needRange_0 : decode cX9_needRange 0 = .ok (.iload_n 0, 1) := by decide +kernel
theorem dX9_needRange_1 : decode cX9_needRange 1 = .ok (.iload_n 1, 1) := by decide +kernel
theorem dX9_needRange_2 : decode cX9_needRange 2 = .ok (.if_icmp .lt 8, 3) := by decide +kernel
theorem dX9_needRange_5 : decode cX9_needRange 5 = .ok (.iload_n 0, 1) := by decide +kernel
theorem dX9_needRange_6 : decode cX9_needRange 6 = .ok (.iload_n 2, 1) := by decide +kernel
theorem dX9_needRange_7 : decode cX9_needRange 7 = .ok (.if_icmp .le 14, 3) := by decide +kernel
theorem dX9_needRange_10 : decode cX9_needRange 10 = .ok (.new 381, 3) := by decide +kernel
theorem dX9_needRange_13 : decode cX9_needRange 13 = .ok (.dup, 1) := by decide +kernel
theorem dX9_needRange_14 : decode cX9_needRange 14 = .ok (.ldc_w 383, 3) := by decide +kernel
theorem dX9_needRange_17 : decode cX9_needRange 17 = .ok (.invokespecial 385, 3) := by decide +kernel
theorem dX9_needRange_20 : decode cX9_needRange 20 = .ok (.athrow, 1) := by decide +kernel
theorem dX9_needRange_21 : decode cX9_needRange 21 = .ok (.return_, 1) := by decide +kernel
theorem dX9_needKind_0 : decode cX9_needKind 0 = .ok (.iload_n 0, 1) := by decide +kernel
theorem dX9_needKind_1 : decode cX9_needKind 1 = .ok (.bipush 104, 2) := by decide +kernel
theorem dX9_needKind_3 : decode cX9_needKind 3 = .ok (.if_icmp .eq 26, 3) := by decide +kernel
theorem dX9_needKind_6 : decode cX9_needKind 6 = .ok (.iload_n 0, 1) := by decide +kernel
theorem dX9_needKind_7 : decode cX9_needKind 7 = .ok (.bipush 102, 2) := by decide +kernel
theorem dX9_needKind_9 : decode cX9_needKind 9 = .ok (.if_icmp .eq 20, 3) := by decide +kernel
theorem dX9_needKind_12 : decode cX9_needKind 12 = .ok (.iload_n 0, 1) := by decide +kernel
theorem dX9_needKind_13 : decode cX9_needKind 13 = .ok (.bipush 100, 2) := by decide +kernel
theorem dX9_needKind_15 : decode cX9_needKind 15 = .ok (.if_icmp .eq 14, 3) := by decide +kernel
theorem dX9_needKind_18 : decode cX9_needKind 18 = .ok (.new 381, 3) := by decide +kernel
theorem dX9_needKind_21 : decode cX9_needKind 21 = .ok (.dup, 1) := by decide +kernel
theorem dX9_needKind_22 : decode cX9_needKind 22 = .ok (.ldc_w 386, 3) := by decide +kernel
theorem dX9_needKind_25 : decode cX9_needKind 25 = .ok (.invokespecial 385, 3) := by decide +kernel
theorem dX9_needKind_28 : decode cX9_needKind 28 = .ok (.athrow, 1) := by decide +kernel
theorem dX9_needKind_29 : decode cX9_needKind 29 = .ok (.return_, 1) := by decide +kernel
theorem dX9_needRoom_0 : decode cX9_needRoom 0 = .ok (.iload_n 0, 1) := by decide +kernel
theorem dX9_needRoom_1 : decode cX9_needRoom 1 = .ok (.iload_n 1, 1) := by decide +kernel
theorem dX9_needRoom_2 : decode cX9_needRoom 2 = .ok (.if_icmp .lt 14, 3) := by decide +kernel
theorem dX9_needRoom_5 : decode cX9_needRoom 5 = .ok (.new 388, 3) := by decide +kernel
theorem dX9_needRoom_8 : decode cX9_needRoom 8 = .ok (.dup, 1) := by decide +kernel
theorem dX9_needRoom_9 : decode cX9_needRoom 9 = .ok (.ldc_w 390, 3) := by decide +kernel
theorem dX9_needRoom_12 : decode cX9_needRoom 12 = .ok (.invokespecial 392, 3) := by decide +kernel
theorem dX9_needRoom_15 : decode cX9_needRoom 15 = .ok (.athrow, 1) := by decide +kernel
theorem dX9_needRoom_16 : decode cX9_needRoom 16 = .ok (.return_, 1) := by decide +kernel
theorem dX9_needNext_0 : decode cX9_needNext 0 = .ok (.aload_n 0, 1) := by decide +kernel
theorem dX9_needNext_1 : decode cX9_needNext 1 = .ok (.getfield 76, 3) := by decide +kernel
theorem dX9_needNext_4 : decode cX9_needNext 4 = .ok (.iload_n 1, 1) := by decide +kernel
theorem dX9_needNext_5 : decode cX9_needNext 5 = .ok (.invokevirtual 393, 3) := by decide +kernel
theorem dX9_needNext_8 : decode cX9_needNext 8 = .ok (.ifCond .ne 14, 3) := by decide +kernel
theorem dX9_needNext_11 : decode cX9_needNext 11 = .ok (.new 180, 3) := by decide +kernel
theorem dX9_needNext_14 : decode cX9_needNext 14 = .ok (.dup, 1) := by decide +kernel
theorem dX9_needNext_15 : decode cX9_needNext 15 = .ok (.ldc_w 397, 3) := by decide +kernel
theorem dX9_needNext_18 : decode cX9_needNext 18 = .ok (.invokespecial 184, 3) := by decide +kernel
theorem dX9_needNext_21 : decode cX9_needNext 21 = .ok (.athrow, 1) := by decide +kernel
theorem dX9_needNext_22 : decode cX9_needNext 22 = .ok (.return_, 1) := by decide +kernel
theorem dX9_needInWork_0 : decode cX9_needInWork 0 = .ok (.aload_n 0, 1) := by decide +kernel
theorem dX9_needInWork_1 : decode cX9_needInWork 1 = .ok (.getfield 76, 3) := by decide +kernel
theorem dX9_needInWork_4 : decode cX9_needInWork 4 = .ok (.invokevirtual 399, 3) := by decide +kernel
theorem dX9_needInWork_7 : decode cX9_needInWork 7 = .ok (.iload_n 1, 1) := by decide +kernel
theorem dX9_needInWork_8 : decode cX9_needInWork 8 = .ok (.if_icmp .ne 13, 3) := by decide +kernel
theorem dX9_needInWork_11 : decode cX9_needInWork 11 = .ok (.aload_n 0, 1) := by decide +kernel
theorem dX9_needInWork_12 : decode cX9_needInWork 12 = .ok (.getfield 76, 3) := by decide +kernel
theorem dX9_needInWork_15 : decode cX9_needInWork 15 = .ok (.invokevirtual 176, 3) := by decide +kernel
theorem dX9_needInWork_18 : decode cX9_needInWork 18 = .ok (.ifCond .eq 14, 3) := by decide +kernel
theorem dX9_needInWork_21 : decode cX9_needInWork 21 = .ok (.new 180, 3) := by decide +kernel
theorem dX9_needInWork_24 : decode cX9_needInWork 24 = .ok (.dup, 1) := by decide +kernel
theorem dX9_needInWork_25 : decode cX9_needInWork 25 = .ok (.ldc_w 402, 3) := by decide +kernel
theorem dX9_needInWork_28 : decode cX9_needInWork 28 = .ok (.invokespecial 184, 3) := by decide +kernel
theorem dX9_needInWork_31 : decode cX9_needInWork 31 = .ok (.athrow, 1) := by decide +kernel
theorem dX9_needInWork_32 : decode cX9_needInWork 32 = .ok (.return_, 1) := by decide +kernel
theorem dX9_needClosed_0 : decode cX9_needClosed 0 = .ok (.aload_n 0, 1) := by decide +kernel
theorem dX9_needClosed_1 : decode cX9_needClosed 1 = .ok (.invokevirtual 204, 3) := by decide +kernel
theorem dX9_needClosed_4 : decode cX9_needClosed 4 = .ok (.ifCond .ne 14, 3) := by decide +kernel
theorem dX9_needClosed_7 : decode cX9_needClosed 7 = .ok (.new 180, 3) := by decide +kernel
theorem dX9_needClosed_10 : decode cX9_needClosed 10 = .ok (.dup, 1) := by decide +kernel
theorem dX9_needClosed_11 : decode cX9_needClosed 11 = .ok (.ldc_w 409, 3) := by decide +kernel
theorem dX9_needClosed_14 : decode cX9_needClosed 14 = .ok (.invokespecial 184, 3) := by decide +kernel
theorem dX9_needClosed_17 : decode cX9_needClosed 17 = .ok (.athrow, 1) := by decide +kernel
theorem dX9_needClosed_18 : decode cX9_needClosed 18 = .ok (.return_, 1) := by decide +kernel
theorem dX9_needHoursLeft_0 : decode cX9_needHoursLeft 0 = .ok (.aload_n 0, 1) := by decide +kernel
theorem dX9_needHoursLeft_1 : decode cX9_needHoursLeft 1 = .ok (.invokestatic 285, 3) := by decide +kernel
theorem dX9_needHoursLeft_4 : decode cX9_needHoursLeft 4 = .ok (.aload_n 0, 1) := by decide +kernel
theorem dX9_needHoursLeft_5 : decode cX9_needHoursLeft 5 = .ok (.getfield 267, 3) := by decide +kernel
theorem dX9_needHoursLeft_8 : decode cX9_needHoursLeft 8 = .ok (.getfield 288, 3) := by decide +kernel
theorem dX9_needHoursLeft_11 : decode cX9_needHoursLeft 11 = .ok (.iload_n 1, 1) := by decide +kernel
theorem dX9_needHoursLeft_12 : decode cX9_needHoursLeft 12 = .ok (.iadd, 1) := by decide +kernel
theorem dX9_needHoursLeft_13 : decode cX9_needHoursLeft 13 = .ok (.ldc_w 411, 3) := by decide +kernel
theorem dX9_needHoursLeft_16 : decode cX9_needHoursLeft 16 = .ok (.if_icmp .le 14, 3) := by decide +kernel
theorem dX9_needHoursLeft_19 : decode cX9_needHoursLeft 19 = .ok (.new 180, 3) := by decide +kernel
theorem dX9_needHoursLeft_22 : decode cX9_needHoursLeft 22 = .ok (.dup, 1) := by decide +kernel
theorem dX9_needHoursLeft_23 : decode cX9_needHoursLeft 23 = .ok (.ldc_w 412, 3) := by decide +kernel
theorem dX9_needHoursLeft_26 : decode cX9_needHoursLeft 26 = .ok (.invokespecial 184, 3) := by decide +kernel
theorem dX9_needHoursLeft_29 : decode cX9_needHoursLeft 29 = .ok (.athrow, 1) := by decide +kernel
theorem dX9_needHoursLeft_30 : decode cX9_needHoursLeft 30 = .ok (.return_, 1) := by decide +kernel
theorem dJ9_floorMod_7cf53_0 : decode cJ9_floorMod_7cf53 0 = .ok (.iload_n 0, 1) := by decide +kernel
theorem dJ9_floorMod_7cf53_1 : decode cJ9_floorMod_7cf53 1 = .ok (.iload_n 1, 1) := by decide +kernel
theorem dJ9_floorMod_7cf53_2 : decode cJ9_floorMod_7cf53 2 = .ok (.irem, 1) := by decide +kernel
theorem dJ9_floorMod_7cf53_3 : decode cJ9_floorMod_7cf53 3 = .ok (.istore_n 2, 1) := by decide +kernel
theorem dJ9_floorMod_7cf53_4 : decode cJ9_floorMod_7cf53 4 = .ok (.iload_n 0, 1) := by decide +kernel
theorem dJ9_floorMod_7cf53_5 : decode cJ9_floorMod_7cf53 5 = .ok (.iload_n 1, 1) := by decide +kernel
theorem dJ9_floorMod_7cf53_6 : decode cJ9_floorMod_7cf53 6 = .ok (.ixor, 1) := by decide +kernel
theorem dJ9_floorMod_7cf53_7 : decode cJ9_floorMod_7cf53 7 = .ok (.ifCond .ge 11, 3) := by decide +kernel
theorem dJ9_floorMod_7cf53_10 : decode cJ9_floorMod_7cf53 10 = .ok (.iload_n 2, 1) := by decide +kernel
theorem dJ9_floorMod_7cf53_11 : decode cJ9_floorMod_7cf53 11 = .ok (.ifCond .eq 7, 3) := by decide +kernel
theorem dJ9_floorMod_7cf53_14 : decode cJ9_floorMod_7cf53 14 = .ok (.iload_n 2, 1) := by decide +kernel
theorem dJ9_floorMod_7cf53_15 : decode cJ9_floorMod_7cf53 15 = .ok (.iload_n 1, 1) := by decide +kernel
theorem dJ9_floorMod_7cf53_16 : decode cJ9_floorMod_7cf53 16 = .ok (.iadd, 1) := by decide +kernel
theorem dJ9_floorMod_7cf53_17 : decode cJ9_floorMod_7cf53 17 = .ok (.ireturn, 1) := by decide +kernel
theorem dJ9_floorMod_7cf53_18 : decode cJ9_floorMod_7cf53 18 = .ok (.iload_n 2, 1) := by decide +kernel
theorem dJ9_floorMod_7cf53_19 : decode cJ9_floorMod_7cf53 19 = .ok (.ireturn, 1) := by decide +kernel
theorem dJ9_abs_0f7a4_0 : decode cJ9_abs_0f7a4 0 = .ok (.iload_n 0, 1) := by decide +kernel
theorem dJ9_abs_0f7a4_1 : decode cJ9_abs_0f7a4 1 = .ok (.ifCond .ge 8, 3) := by decide +kernel
theorem dJ9_abs_0f7a4_4 : decode cJ9_abs_0f7a4 4 = .ok (.iload_n 0, 1) := by decide +kernel
theorem dJ9_abs_0f7a4_5 : decode cJ9_abs_0f7a4 5 = .ok (.ineg, 1) := by decide +kernel
theorem dJ9_abs_0f7a4_6 : decode cJ9_abs_0f7a4 6 = .ok (.goto 4, 3) := by decide +kernel
theorem dJ9_abs_0f7a4_9 : decode cJ9_abs_0f7a4 9 = .ok (.iload_n 0, 1) := by decide +kernel
theorem dJ9_abs_0f7a4_10 : decode cJ9_abs_0f7a4 10 = .ok (.ireturn, 1) := by decide +kernel
theorem dJ9_max_7cf53_0 : decode cJ9_max_7cf53 0 = .ok (.iload_n 0, 1) := by decide +kernel
theorem dJ9_max_7cf53_1 : decode cJ9_max_7cf53 1 = .ok (.iload_n 1, 1) := by decide +kernel
theorem dJ9_max_7cf53_2 : decode cJ9_max_7cf53 2 = .ok (.if_icmp .lt 7, 3) := by decide +kernel
theorem dJ9_max_7cf53_5 : decode cJ9_max_7cf53 5 = .ok (.iload_n 0, 1) := by decide +kernel
theorem dJ9_max_7cf53_6 : decode cJ9_max_7cf53 6 = .ok (.goto 4, 3) := by decide +kernel
theorem dJ9_max_7cf53_9 : decode cJ9_max_7cf53 9 = .ok (.iload_n 1, 1) := by decide +kernel
theorem dJ9_max_7cf53_10 : decode cJ9_max_7cf53 10 = .ok (.ireturn, 1) := by decide +kernel
theorem dJ9_min_7cf53_0 : decode cJ9_min_7cf53 0 = .ok (.iload_n 0, 1) := by decide +kernel
theorem dJ9_min_7cf53_1 : decode cJ9_min_7cf53 1 = .ok (.iload_n 1, 1) := by decide +kernel
theorem dJ9_min_7cf53_2 : decode cJ9_min_7cf53 2 = .ok (.if_icmp .gt 7, 3) := by decide +kernel
theorem dJ9_min_7cf53_5 : decode cJ9_min_7cf53 5 = .ok (.iload_n 0, 1) := by decide +kernel
theorem dJ9_min_7cf53_6 : decode cJ9_min_7cf53 6 = .ok (.goto 4, 3) := by decide +kernel
theorem dJ9_min_7cf53_9 : decode cJ9_min_7cf53 9 = .ok (.iload_n 1, 1) := by decide +kernel
theorem dJ9_min_7cf53_10 : decode cJ9_min_7cf53 10 = .ok (.ireturn, 1) := by decide +kernel
theorem dJxa1e45_init_da8c8_0 : decode cJxa1e45_init_da8c8 0 = .ok (.aload_n 0, 1) := by decide +kernel
theorem dJxa1e45_init_da8c8_1 : decode cJxa1e45_init_da8c8 1 = .ok (.invokespecial 1, 3) := by decide +kernel
theorem dJxa1e45_init_da8c8_4 : decode cJxa1e45_init_da8c8 4 = .ok (.return_, 1) := by decide +kernel
theorem dJxc12de_init_da8c8_0 : decode cJxc12de_init_da8c8 0 = .ok (.aload_n 0, 1) := by decide +kernel
theorem dJxc12de_init_da8c8_1 : decode cJxc12de_init_da8c8 1 = .ok (.invokespecial 1, 3) := by decide +kernel
theorem dJxc12de_init_da8c8_4 : decode cJxc12de_init_da8c8 4 = .ok (.aload_n 0, 1) := by decide +kernel
theorem dJxc12de_init_da8c8_5 : decode cJxc12de_init_da8c8 5 = .ok (.iconst 0, 1) := by decide +kernel
theorem dJxc12de_init_da8c8_6 : decode cJxc12de_init_da8c8 6 = .ok (.putfield 7, 3) := by decide +kernel
theorem dJxc12de_init_da8c8_9 : decode cJxc12de_init_da8c8 9 = .ok (.return_, 1) := by decide +kernel
theorem dJx4a65c_init_da8c8_0 : decode cJx4a65c_init_da8c8 0 = .ok (.aload_n 0, 1) := by decide +kernel
theorem dJx4a65c_init_da8c8_1 : decode cJx4a65c_init_da8c8 1 = .ok (.invokespecial 1, 3) := by decide +kernel
theorem dJx4a65c_init_da8c8_4 : decode cJx4a65c_init_da8c8 4 = .ok (.aload_n 0, 1) := by decide +kernel
theorem dJx4a65c_init_da8c8_5 : decode cJx4a65c_init_da8c8 5 = .ok (.getstatic 39, 3) := by decide +kernel
theorem dJx4a65c_init_da8c8_8 : decode cJx4a65c_init_da8c8 8 = .ok (.putfield 9, 3) := by decide +kernel
theorem dJx4a65c_init_da8c8_11 : decode cJx4a65c_init_da8c8 11 = .ok (.return_, 1) := by decide +kernel
theorem dJx4a65c_grow_92f84_0 : decode cJx4a65c_grow_92f84 0 = .ok (.aload_n 0, 1) := by decide +kernel
theorem dJx4a65c_grow_92f84_1 : decode cJx4a65c_grow_92f84 1 = .ok (.getfield 9, 3) := by decide +kernel
theorem dJx4a65c_grow_92f84_4 : decode cJx4a65c_grow_92f84 4 = .ok (.arraylength, 1) := by decide +kernel
theorem dJx4a65c_grow_92f84_5 : decode cJx4a65c_grow_92f84 5 = .ok (.istore_n 2, 1) := by decide +kernel
theorem dJx4a65c_grow_92f84_6 : decode cJx4a65c_grow_92f84 6 = .ok (.iload_n 2, 1) := by decide +kernel
theorem dJx4a65c_grow_92f84_7 : decode cJx4a65c_grow_92f84 7 = .ok (.ifCond .gt 13, 3) := by decide +kernel
theorem dJx4a65c_grow_92f84_10 : decode cJx4a65c_grow_92f84 10 = .ok (.aload_n 0, 1) := by decide +kernel
theorem dJx4a65c_grow_92f84_11 : decode cJx4a65c_grow_92f84 11 = .ok (.getfield 9, 3) := by decide +kernel
theorem dJx4a65c_grow_92f84_14 : decode cJx4a65c_grow_92f84 14 = .ok (.getstatic 39, 3) := by decide +kernel
theorem dJx4a65c_grow_92f84_17 : decode cJx4a65c_grow_92f84 17 = .ok (.if_acmp .eq 28, 3) := by decide +kernel
theorem dJx4a65c_grow_92f84_20 : decode cJx4a65c_grow_92f84 20 = .ok (.iload_n 2, 1) := by decide +kernel
theorem dJx4a65c_grow_92f84_21 : decode cJx4a65c_grow_92f84 21 = .ok (.iload_n 1, 1) := by decide +kernel
theorem dJx4a65c_grow_92f84_22 : decode cJx4a65c_grow_92f84 22 = .ok (.iload_n 2, 1) := by decide +kernel
theorem dJx4a65c_grow_92f84_23 : decode cJx4a65c_grow_92f84 23 = .ok (.isub, 1) := by decide +kernel
theorem dJx4a65c_grow_92f84_24 : decode cJx4a65c_grow_92f84 24 = .ok (.iload_n 2, 1) := by decide +kernel
theorem dJx4a65c_grow_92f84_25 : decode cJx4a65c_grow_92f84 25 = .ok (.iconst 1, 1) := by decide +kernel
theorem dJx4a65c_grow_92f84_26 : decode cJx4a65c_grow_92f84 26 = .ok (.ishr, 1) := by decide +kernel
theorem dJx4a65c_grow_92f84_27 : decode cJx4a65c_grow_92f84 27 = .ok (.invokestatic 73, 3) := by decide +kernel
theorem dJx4a65c_grow_92f84_30 : decode cJx4a65c_grow_92f84 30 = .ok (.istore_n 3, 1) := by decide +kernel
theorem dJx4a65c_grow_92f84_31 : decode cJx4a65c_grow_92f84 31 = .ok (.aload_n 0, 1) := by decide +kernel
theorem dJx4a65c_grow_92f84_32 : decode cJx4a65c_grow_92f84 32 = .ok (.aload_n 0, 1) := by decide +kernel
theorem dJx4a65c_grow_92f84_33 : decode cJx4a65c_grow_92f84 33 = .ok (.getfield 9, 3) := by decide +kernel
theorem dJx4a65c_grow_92f84_36 : decode cJx4a65c_grow_92f84 36 = .ok (.iload_n 3, 1) := by decide +kernel
theorem dJx4a65c_grow_92f84_37 : decode cJx4a65c_grow_92f84 37 = .ok (.invokestatic 66, 3) := by decide +kernel
theorem dJx4a65c_grow_92f84_40 : decode cJx4a65c_grow_92f84 40 = .ok (.dup_x1, 1) := by decide +kernel
theorem dJx4a65c_grow_92f84_41 : decode cJx4a65c_grow_92f84 41 = .ok (.putfield 9, 3) := by decide +kernel
theorem dJx4a65c_grow_92f84_44 : decode cJx4a65c_grow_92f84 44 = .ok (.areturn, 1) := by decide +kernel
theorem dJx4a65c_grow_92f84_45 : decode cJx4a65c_grow_92f84 45 = .ok (.aload_n 0, 1) := by decide +kernel
theorem dJx4a65c_grow_92f84_46 : decode cJx4a65c_grow_92f84 46 = .ok (.bipush 10, 2) := by decide +kernel
theorem dJx4a65c_grow_92f84_48 : decode cJx4a65c_grow_92f84 48 = .ok (.iload_n 1, 1) := by decide +kernel
theorem dJx4a65c_grow_92f84_49 : decode cJx4a65c_grow_92f84 49 = .ok (.invokestatic 79, 3) := by decide +kernel
theorem dJx4a65c_grow_92f84_52 : decode cJx4a65c_grow_92f84 52 = .ok (.anewarray 7, 3) := by decide +kernel
theorem dJx4a65c_grow_92f84_55 : decode cJx4a65c_grow_92f84 55 = .ok (.dup_x1, 1) := by decide +kernel
theorem dJx4a65c_grow_92f84_56 : decode cJx4a65c_grow_92f84 56 = .ok (.putfield 9, 3) := by decide +kernel
theorem dJx4a65c_grow_92f84_59 : decode cJx4a65c_grow_92f84 59 = .ok (.areturn, 1) := by decide +kernel
theorem dJx4a65c_grow_d5877_0 : decode cJx4a65c_grow_d5877 0 = .ok (.aload_n 0, 1) := by decide +kernel
theorem dJx4a65c_grow_d5877_1 : decode cJx4a65c_grow_d5877 1 = .ok (.aload_n 0, 1) := by decide +kernel
theorem dJx4a65c_grow_d5877_2 : decode cJx4a65c_grow_d5877 2 = .ok (.getfield 48, 3) := by decide +kernel
theorem dJx4a65c_grow_d5877_5 : decode cJx4a65c_grow_d5877 5 = .ok (.iconst 1, 1) := by decide +kernel
theorem dJx4a65c_grow_d5877_6 : decode cJx4a65c_grow_d5877 6 = .ok (.iadd, 1) := by decide +kernel
theorem dJx4a65c_grow_d5877_7 : decode cJx4a65c_grow_d5877 7 = .ok (.invokevirtual 69, 3) := by decide +kernel
theorem dJx4a65c_grow_d5877_10 : decode cJx4a65c_grow_d5877 10 = .ok (.areturn, 1) := by decide +kernel
theorem dJx4a65c_size_8abf5_0 : decode cJx4a65c_size_8abf5 0 = .ok (.aload_n 0, 1) := by decide +kernel
theorem dJx4a65c_size_8abf5_1 : decode cJx4a65c_size_8abf5 1 = .ok (.getfield 48, 3) := by decide +kernel
theorem dJx4a65c_size_8abf5_4 : decode cJx4a65c_size_8abf5 4 = .ok (.ireturn, 1) := by decide +kernel
theorem dJx4a65c_isEmpty_aae02_0 : decode cJx4a65c_isEmpty_aae02 0 = .ok (.aload_n 0, 1) := by decide +kernel
theorem dJx4a65c_isEmpty_aae02_1 : decode cJx4a65c_isEmpty_aae02 1 = .ok (.getfield 48, 3) := by decide +kernel
theorem dJx4a65c_isEmpty_aae02_4 : decode cJx4a65c_isEmpty_aae02 4 = .ok (.ifCond .ne 7, 3) := by decide +kernel
theorem dJx4a65c_isEmpty_aae02_7 : decode cJx4a65c_isEmpty_aae02 7 = .ok (.iconst 1, 1) := by decide +kernel
theorem dJx4a65c_isEmpty_aae02_8 : decode cJx4a65c_isEmpty_aae02 8 = .ok (.goto 4, 3) := by decide +kernel
theorem dJx4a65c_isEmpty_aae02_11 : decode cJx4a65c_isEmpty_aae02 11 = .ok (.iconst 0, 1) := by decide +kernel
theorem dJx4a65c_isEmpty_aae02_12 : decode cJx4a65c_isEmpty_aae02 12 = .ok (.ireturn, 1) := by decide +kernel
theorem dJx4a65c_elementData_915e3_0 : decode cJx4a65c_elementData_915e3 0 = .ok (.aload_n 0, 1) := by decide +kernel
theorem dJx4a65c_elementData_915e3_1 : decode cJx4a65c_elementData_915e3 1 = .ok (.getfield 9, 3) := by decide +kernel
theorem dJx4a65c_elementData_915e3_4 : decode cJx4a65c_elementData_915e3 4 = .ok (.iload_n 1, 1) := by decide +kernel
theorem dJx4a65c_elementData_915e3_5 : decode cJx4a65c_elementData_915e3 5 = .ok (.aaload, 1) := by decide +kernel
theorem dJx4a65c_elementData_915e3_6 : decode cJx4a65c_elementData_915e3 6 = .ok (.areturn, 1) := by decide +kernel
theorem dJx4a65c_get_915e3_0 : decode cJx4a65c_get_915e3 0 = .ok (.iload_n 1, 1) := by decide +kernel
theorem dJx4a65c_get_915e3_1 : decode cJx4a65c_get_915e3 1 = .ok (.aload_n 0, 1) := by decide +kernel
theorem dJx4a65c_get_915e3_2 : decode cJx4a65c_get_915e3 2 = .ok (.getfield 48, 3) := by decide +kernel
theorem dJx4a65c_get_915e3_5 : decode cJx4a65c_get_915e3 5 = .ok (.invokestatic 118, 3) := by decide +kernel
theorem dJx4a65c_get_915e3_8 : decode cJx4a65c_get_915e3 8 = .ok (.pop, 1) := by decide +kernel
theorem dJx4a65c_get_915e3_9 : decode cJx4a65c_get_915e3 9 = .ok (.aload_n 0, 1) := by decide +kernel
theorem dJx4a65c_get_915e3_10 : decode cJx4a65c_get_915e3 10 = .ok (.iload_n 1, 1) := by decide +kernel
theorem dJx4a65c_get_915e3_11 : decode cJx4a65c_get_915e3 11 = .ok (.invokevirtual 123, 3) := by decide +kernel
theorem dJx4a65c_get_915e3_14 : decode cJx4a65c_get_915e3 14 = .ok (.areturn, 1) := by decide +kernel
theorem dJx4a65c_add_72be8_0 : decode cJx4a65c_add_72be8 0 = .ok (.iload_n 3, 1) := by decide +kernel
theorem dJx4a65c_add_72be8_1 : decode cJx4a65c_add_72be8 1 = .ok (.aload_n 2, 1) := by decide +kernel
theorem dJx4a65c_add_72be8_2 : decode cJx4a65c_add_72be8 2 = .ok (.arraylength, 1) := by decide +kernel
theorem dJx4a65c_add_72be8_3 : decode cJx4a65c_add_72be8 3 = .ok (.if_icmp .ne 8, 3) := by decide +kernel
theorem dJx4a65c_add_72be8_6 : decode cJx4a65c_add_72be8 6 = .ok (.aload_n 0, 1) := by decide +kernel
theorem dJx4a65c_add_72be8_7 : decode cJx4a65c_add_72be8 7 = .ok (.invokevirtual 129, 3) := by decide +kernel
theorem dJx4a65c_add_72be8_10 : decode cJx4a65c_add_72be8 10 = .ok (.astore_n 2, 1) := by decide +kernel
theorem dJx4a65c_add_72be8_11 : decode cJx4a65c_add_72be8 11 = .ok (.aload_n 2, 1) := by decide +kernel
theorem dJx4a65c_add_72be8_12 : decode cJx4a65c_add_72be8 12 = .ok (.iload_n 3, 1) := by decide +kernel
theorem dJx4a65c_add_72be8_13 : decode cJx4a65c_add_72be8 13 = .ok (.aload_n 1, 1) := by decide +kernel
theorem dJx4a65c_add_72be8_14 : decode cJx4a65c_add_72be8 14 = .ok (.aastore, 1) := by decide +kernel
theorem dJx4a65c_add_72be8_15 : decode cJx4a65c_add_72be8 15 = .ok (.aload_n 0, 1) := by decide +kernel
theorem dJx4a65c_add_72be8_16 : decode cJx4a65c_add_72be8 16 = .ok (.iload_n 3, 1) := by decide +kernel
theorem dJx4a65c_add_72be8_17 : decode cJx4a65c_add_72be8 17 = .ok (.iconst 1, 1) := by decide +kernel
theorem dJx4a65c_add_72be8_18 : decode cJx4a65c_add_72be8 18 = .ok (.iadd, 1) := by decide +kernel
theorem dJx4a65c_add_72be8_19 : decode cJx4a65c_add_72be8 19 = .ok (.putfield 48, 3) := by decide +kernel
theorem dJx4a65c_add_72be8_22 : decode cJx4a65c_add_72be8 22 = .ok (.return_, 1) := by decide +kernel
theorem dJx4a65c_add_9ea2d_0 : decode cJx4a65c_add_9ea2d 0 = .ok (.aload_n 0, 1) := by decide +kernel
theorem dJx4a65c_add_9ea2d_1 : decode cJx4a65c_add_9ea2d 1 = .ok (.dup, 1) := by decide +kernel
theorem dJx4a65c_add_9ea2d_2 : decode cJx4a65c_add_9ea2d 2 = .ok (.getfield 63, 3) := by decide +kernel
theorem dJx4a65c_add_9ea2d_5 : decode cJx4a65c_add_9ea2d 5 = .ok (.iconst 1, 1) := by decide +kernel
theorem dJx4a65c_add_9ea2d_6 : decode cJx4a65c_add_9ea2d 6 = .ok (.iadd, 1) := by decide +kernel
theorem dJx4a65c_add_9ea2d_7 : decode cJx4a65c_add_9ea2d 7 = .ok (.putfield 63, 3) := by decide +kernel
theorem dJx4a65c_add_9ea2d_10 : decode cJx4a65c_add_9ea2d 10 = .ok (.aload_n 0, 1) := by decide +kernel
theorem dJx4a65c_add_9ea2d_11 : decode cJx4a65c_add_9ea2d 11 = .ok (.aload_n 1, 1) := by decide +kernel
theorem dJx4a65c_add_9ea2d_12 : decode cJx4a65c_add_9ea2d 12 = .ok (.aload_n 0, 1) := by decide +kernel
theorem dJx4a65c_add_9ea2d_13 : decode cJx4a65c_add_9ea2d 13 = .ok (.getfield 9, 3) := by decide +kernel
theorem dJx4a65c_add_9ea2d_16 : decode cJx4a65c_add_9ea2d 16 = .ok (.aload_n 0, 1) := by decide +kernel
theorem dJx4a65c_add_9ea2d_17 : decode cJx4a65c_add_9ea2d 17 = .ok (.getfield 48, 3) := by decide +kernel
theorem dJx4a65c_add_9ea2d_20 : decode cJx4a65c_add_9ea2d 20 = .ok (.invokevirtual 131, 3) := by decide +kernel
theorem dJx4a65c_add_9ea2d_23 : decode cJx4a65c_add_9ea2d 23 = .ok (.iconst 1, 1) := by decide +kernel
theorem dJx4a65c_add_9ea2d_24 : decode cJx4a65c_add_9ea2d 24 = .ok (.ireturn, 1) := by decide +kernel
theorem dJ7_fill_53178_0 : decode cJ7_fill_53178 0 = .ok (.iconst 0, 1) := by decide +kernel
theorem dJ7_fill_53178_1 : decode cJ7_fill_53178 1 = .ok (.istore_n 2, 1) := by decide +kernel
theorem dJ7_fill_53178_2 : decode cJ7_fill_53178 2 = .ok (.aload_n 0, 1) := by decide +kernel
theorem dJ7_fill_53178_3 : decode cJ7_fill_53178 3 = .ok (.arraylength, 1) := by decide +kernel
theorem dJ7_fill_53178_4 : decode cJ7_fill_53178 4 = .ok (.istore_n 3, 1) := by decide +kernel
theorem dJ7_fill_53178_5 : decode cJ7_fill_53178 5 = .ok (.iload_n 2, 1) := by decide +kernel
theorem dJ7_fill_53178_6 : decode cJ7_fill_53178 6 = .ok (.iload_n 3, 1) := by decide +kernel
theorem dJ7_fill_53178_7 : decode cJ7_fill_53178 7 = .ok (.if_icmp .ge 13, 3) := by decide +kernel
theorem dJ7_fill_53178_10 : decode cJ7_fill_53178 10 = .ok (.aload_n 0, 1) := by decide +kernel
theorem dJ7_fill_53178_11 : decode cJ7_fill_53178 11 = .ok (.iload_n 2, 1) := by decide +kernel
theorem dJ7_fill_53178_12 : decode cJ7_fill_53178 12 = .ok (.iload_n 1, 1) := by decide +kernel
theorem dJ7_fill_53178_13 : decode cJ7_fill_53178 13 = .ok (.iastore, 1) := by decide +kernel
theorem dJ7_fill_53178_14 : decode cJ7_fill_53178 14 = .ok (.iinc 2 1, 3) := by decide +kernel
theorem dJ7_fill_53178_17 : decode cJ7_fill_53178 17 = .ok (.goto (-12), 3) := by decide +kernel
theorem dJ7_fill_53178_20 : decode cJ7_fill_53178 20 = .ok (.return_, 1) := by decide +kernel
theorem dJ7_copyOf_1904c_0 : decode cJ7_copyOf_1904c 0 = .ok (.aload_n 0, 1) := by decide +kernel
theorem dJ7_copyOf_1904c_1 : decode cJ7_copyOf_1904c 1 = .ok (.iload_n 1, 1) := by decide +kernel
theorem dJ7_copyOf_1904c_2 : decode cJ7_copyOf_1904c 2 = .ok (.aload_n 0, 1) := by decide +kernel
theorem dJ7_copyOf_1904c_3 : decode cJ7_copyOf_1904c 3 = .ok (.invokevirtual 86, 3) := by decide +kernel
theorem dJ7_copyOf_1904c_6 : decode cJ7_copyOf_1904c 6 = .ok (.invokestatic 300, 3) := by decide +kernel
theorem dJ7_copyOf_1904c_9 : decode cJ7_copyOf_1904c 9 = .ok (.areturn, 1) := by decide +kernel
theorem dJ7_copyOf_6403c_0 : decode cJ7_copyOf_6403c 0 = .ok (.aload_n 2, 1) := by decide +kernel
theorem dJ7_copyOf_6403c_1 : decode cJ7_copyOf_6403c 1 = .ok (.ldc 110, 2) := by decide +kernel
theorem dJ7_copyOf_6403c_3 : decode cJ7_copyOf_6403c 3 = .ok (.if_acmp .ne 10, 3) := by decide +kernel
theorem dJ7_copyOf_6403c_6 : decode cJ7_copyOf_6403c 6 = .ok (.iload_n 1, 1) := by decide +kernel
theorem dJ7_copyOf_6403c_7 : decode cJ7_copyOf_6403c 7 = .ok (.anewarray 2, 3) := by decide +kernel
theorem dJ7_copyOf_6403c_10 : decode cJ7_copyOf_6403c 10 = .ok (.goto 14, 3) := by decide +kernel
theorem dJ7_copyOf_6403c_13 : decode cJ7_copyOf_6403c 13 = .ok (.aload_n 2, 1) := by decide +kernel
theorem dJ7_copyOf_6403c_14 : decode cJ7_copyOf_6403c 14 = .ok (.invokevirtual 90, 3) := by decide +kernel
theorem dJ7_copyOf_6403c_17 : decode cJ7_copyOf_6403c 17 = .ok (.iload_n 1, 1) := by decide +kernel
theorem dJ7_copyOf_6403c_18 : decode cJ7_copyOf_6403c 18 = .ok (.invokestatic 95, 3) := by decide +kernel
theorem dJ7_copyOf_6403c_21 : decode cJ7_copyOf_6403c 21 = .ok (.checkcast 110, 3) := by decide +kernel
theorem dJ7_copyOf_6403c_24 : decode cJ7_copyOf_6403c 24 = .ok (.astore_n 3, 1) := by decide +kernel
theorem dJ7_copyOf_6403c_25 : decode cJ7_copyOf_6403c 25 = .ok (.aload_n 0, 1) := by decide +kernel
theorem dJ7_copyOf_6403c_26 : decode cJ7_copyOf_6403c 26 = .ok (.iconst 0, 1) := by decide +kernel
theorem dJ7_copyOf_6403c_27 : decode cJ7_copyOf_6403c 27 = .ok (.aload_n 3, 1) := by decide +kernel
theorem dJ7_copyOf_6403c_28 : decode cJ7_copyOf_6403c 28 = .ok (.iconst 0, 1) := by decide +kernel
theorem dJ7_copyOf_6403c_29 : decode cJ7_copyOf_6403c 29 = .ok (.aload_n 0, 1) := by decide +kernel
theorem dJ7_copyOf_6403c_30 : decode cJ7_copyOf_6403c 30 = .ok (.arraylength, 1) := by decide +kernel
theorem dJ7_copyOf_6403c_31 : decode cJ7_copyOf_6403c 31 = .ok (.iload_n 1, 1) := by decide +kernel
theorem dJ7_copyOf_6403c_32 : decode cJ7_copyOf_6403c 32 = .ok (.invokestatic 304, 3) := by decide +kernel
theorem dJ7_copyOf_6403c_35 : decode cJ7_copyOf_6403c 35 = .ok (.invokestatic 150, 3) := by decide +kernel
theorem dJ7_copyOf_6403c_38 : decode cJ7_copyOf_6403c 38 = .ok (.aload_n 3, 1) := by decide +kernel
theorem dJ7_copyOf_6403c_39 : decode cJ7_copyOf_6403c 39 = .ok (.areturn, 1) := by decide +kernel
theorem dJ15_checkIndex_7cf53_0 : decode cJ15_checkIndex_7cf53 0 = .ok (.iload_n 0, 1) := by decide +kernel
theorem dJ15_checkIndex_7cf53_1 : decode cJ15_checkIndex_7cf53 1 = .ok (.iload_n 1, 1) := by decide +kernel
theorem dJ15_checkIndex_7cf53_2 : decode cJ15_checkIndex_7cf53 2 = .ok (.aconst_null, 1) := by decide +kernel
theorem dJ15_checkIndex_7cf53_3 : decode cJ15_checkIndex_7cf53 3 = .ok (.invokestatic 105, 3) := by decide +kernel
theorem dJ15_checkIndex_7cf53_6 : decode cJ15_checkIndex_7cf53 6 = .ok (.ireturn, 1) := by decide +kernel
theorem dJ8_newLength_cabcc_0 : decode cJ8_newLength_cabcc 0 = .ok (.iload_n 0, 1) := by decide +kernel
theorem dJ8_newLength_cabcc_1 : decode cJ8_newLength_cabcc 1 = .ok (.iload_n 1, 1) := by decide +kernel
theorem dJ8_newLength_cabcc_2 : decode cJ8_newLength_cabcc 2 = .ok (.iload_n 2, 1) := by decide +kernel
theorem dJ8_newLength_cabcc_3 : decode cJ8_newLength_cabcc 3 = .ok (.invokestatic 194, 3) := by decide +kernel
theorem dJ8_newLength_cabcc_6 : decode cJ8_newLength_cabcc 6 = .ok (.iadd, 1) := by decide +kernel
theorem dJ8_newLength_cabcc_7 : decode cJ8_newLength_cabcc 7 = .ok (.istore_n 3, 1) := by decide +kernel
theorem dJ8_newLength_cabcc_8 : decode cJ8_newLength_cabcc 8 = .ok (.iconst 0, 1) := by decide +kernel
theorem dJ8_newLength_cabcc_9 : decode cJ8_newLength_cabcc 9 = .ok (.iload_n 3, 1) := by decide +kernel
theorem dJ8_newLength_cabcc_10 : decode cJ8_newLength_cabcc 10 = .ok (.if_icmp .ge 11, 3) := by decide +kernel
theorem dJ8_newLength_cabcc_13 : decode cJ8_newLength_cabcc 13 = .ok (.iload_n 3, 1) := by decide +kernel
theorem dJ8_newLength_cabcc_14 : decode cJ8_newLength_cabcc 14 = .ok (.ldc 200, 2) := by decide +kernel
theorem dJ8_newLength_cabcc_16 : decode cJ8_newLength_cabcc 16 = .ok (.if_icmp .gt 5, 3) := by decide +kernel
theorem dJ8_newLength_cabcc_19 : decode cJ8_newLength_cabcc 19 = .ok (.iload_n 3, 1) := by decide +kernel
theorem dJ8_newLength_cabcc_20 : decode cJ8_newLength_cabcc 20 = .ok (.ireturn, 1) := by decide +kernel
theorem dJ8_newLength_cabcc_21 : decode cJ8_newLength_cabcc 21 = .ok (.iload_n 0, 1) := by decide +kernel
theorem dJ8_newLength_cabcc_22 : decode cJ8_newLength_cabcc 22 = .ok (.iload_n 1, 1) := by decide +kernel
theorem dJ8_newLength_cabcc_23 : decode cJ8_newLength_cabcc 23 = .ok (.invokestatic 201, 3) := by decide +kernel
theorem dJ8_newLength_cabcc_26 : decode cJ8_newLength_cabcc 26 = .ok (.ireturn, 1) := by decide +kernel
theorem dJ8_hugeLength_7cf53_0 : decode cJ8_hugeLength_7cf53 0 = .ok (.iload_n 0, 1) := by decide +kernel
theorem dJ8_hugeLength_7cf53_1 : decode cJ8_hugeLength_7cf53 1 = .ok (.iload_n 1, 1) := by decide +kernel
theorem dJ8_hugeLength_7cf53_2 : decode cJ8_hugeLength_7cf53 2 = .ok (.iadd, 1) := by decide +kernel
theorem dJ8_hugeLength_7cf53_3 : decode cJ8_hugeLength_7cf53 3 = .ok (.istore_n 2, 1) := by decide +kernel
theorem dJ8_hugeLength_7cf53_4 : decode cJ8_hugeLength_7cf53 4 = .ok (.iload_n 2, 1) := by decide +kernel
theorem dJ8_hugeLength_7cf53_5 : decode cJ8_hugeLength_7cf53 5 = .ok (.ifCond .ge 44, 3) := by decide +kernel
theorem dJ8_hugeLength_7cf53_8 : decode cJ8_hugeLength_7cf53 8 = .ok (.new 204, 3) := by decide +kernel
theorem dJ8_hugeLength_7cf53_11 : decode cJ8_hugeLength_7cf53 11 = .ok (.dup, 1) := by decide +kernel
theorem dJ8_hugeLength_7cf53_12 : decode cJ8_hugeLength_7cf53 12 = .ok (.new 89, 3) := by decide +kernel
theorem dJ8_hugeLength_7cf53_15 : decode cJ8_hugeLength_7cf53 15 = .ok (.dup, 1) := by decide +kernel
theorem dJ8_hugeLength_7cf53_16 : decode cJ8_hugeLength_7cf53 16 = .ok (.invokespecial 91, 3) := by decide +kernel
theorem dJ8_hugeLength_7cf53_19 : decode cJ8_hugeLength_7cf53 19 = .ok (.ldc 206, 2) := by decide +kernel
theorem dJ8_hugeLength_7cf53_21 : decode cJ8_hugeLength_7cf53 21 = .ok (.invokevirtual 94, 3) := by decide +kernel
theorem dJ8_hugeLength_7cf53_24 : decode cJ8_hugeLength_7cf53 24 = .ok (.iload_n 0, 1) := by decide +kernel
theorem dJ8_hugeLength_7cf53_25 : decode cJ8_hugeLength_7cf53 25 = .ok (.invokevirtual 98, 3) := by decide +kernel
theorem dJ8_hugeLength_7cf53_28 : decode cJ8_hugeLength_7cf53 28 = .ok (.ldc 208, 2) := by decide +kernel
theorem dJ8_hugeLength_7cf53_30 : decode cJ8_hugeLength_7cf53 30 = .ok (.invokevirtual 94, 3) := by decide +kernel
theorem dJ8_hugeLength_7cf53_33 : decode cJ8_hugeLength_7cf53 33 = .ok (.iload_n 1, 1) := by decide +kernel
theorem dJ8_hugeLength_7cf53_34 : decode cJ8_hugeLength_7cf53 34 = .ok (.invokevirtual 98, 3) := by decide +kernel
theorem dJ8_hugeLength_7cf53_37 : decode cJ8_hugeLength_7cf53 37 = .ok (.ldc 210, 2) := by decide +kernel
theorem dJ8_hugeLength_7cf53_39 : decode cJ8_hugeLength_7cf53 39 = .ok (.invokevirtual 94, 3) := by decide +kernel
theorem dJ8_hugeLength_7cf53_42 : decode cJ8_hugeLength_7cf53 42 = .ok (.invokevirtual 101, 3) := by decide +kernel
theorem dJ8_hugeLength_7cf53_45 : decode cJ8_hugeLength_7cf53 45 = .ok (.invokespecial 212, 3) := by decide +kernel
theorem dJ8_hugeLength_7cf53_48 : decode cJ8_hugeLength_7cf53 48 = .ok (.athrow, 1) := by decide +kernel
theorem dJ8_hugeLength_7cf53_49 : decode cJ8_hugeLength_7cf53 49 = .ok (.iload_n 2, 1) := by decide +kernel
theorem dJ8_hugeLength_7cf53_50 : decode cJ8_hugeLength_7cf53 50 = .ok (.ldc 200, 2) := by decide +kernel
theorem dJ8_hugeLength_7cf53_52 : decode cJ8_hugeLength_7cf53 52 = .ok (.if_icmp .gt 6, 3) := by decide +kernel
theorem dJ8_hugeLength_7cf53_55 : decode cJ8_hugeLength_7cf53 55 = .ok (.ldc 200, 2) := by decide +kernel
theorem dJ8_hugeLength_7cf53_57 : decode cJ8_hugeLength_7cf53 57 = .ok (.ireturn, 1) := by decide +kernel
theorem dJ8_hugeLength_7cf53_58 : decode cJ8_hugeLength_7cf53 58 = .ok (.iload_n 2, 1) := by decide +kernel
theorem dJ8_hugeLength_7cf53_59 : decode cJ8_hugeLength_7cf53 59 = .ok (.ireturn, 1) := by decide +kernel
theorem dJ3_checkIndex_8e157_0 : decode cJ3_checkIndex_8e157 0 = .ok (.iload_n 0, 1) := by decide +kernel
theorem dJ3_checkIndex_8e157_1 : decode cJ3_checkIndex_8e157 1 = .ok (.ifCond .lt 8, 3) := by decide +kernel
theorem dJ3_checkIndex_8e157_4 : decode cJ3_checkIndex_8e157 4 = .ok (.iload_n 0, 1) := by decide +kernel
theorem dJ3_checkIndex_8e157_5 : decode cJ3_checkIndex_8e157 5 = .ok (.iload_n 1, 1) := by decide +kernel
theorem dJ3_checkIndex_8e157_6 : decode cJ3_checkIndex_8e157 6 = .ok (.if_icmp .lt 10, 3) := by decide +kernel
theorem dJ3_checkIndex_8e157_9 : decode cJ3_checkIndex_8e157 9 = .ok (.aload_n 2, 1) := by decide +kernel
theorem dJ3_checkIndex_8e157_10 : decode cJ3_checkIndex_8e157 10 = .ok (.iload_n 0, 1) := by decide +kernel
theorem dJ3_checkIndex_8e157_11 : decode cJ3_checkIndex_8e157 11 = .ok (.iload_n 1, 1) := by decide +kernel
theorem dJ3_checkIndex_8e157_12 : decode cJ3_checkIndex_8e157 12 = .ok (.invokestatic 95, 3) := by decide +kernel
theorem dJ3_checkIndex_8e157_15 : decode cJ3_checkIndex_8e157 15 = .ok (.athrow, 1) := by decide +kernel
theorem dJ3_checkIndex_8e157_16 : decode cJ3_checkIndex_8e157 16 = .ok (.iload_n 0, 1) := by decide +kernel
theorem dJ3_checkIndex_8e157_17 : decode cJ3_checkIndex_8e157 17 = .ok (.ireturn, 1) := by decide +kernel
theorem dL_cell_0 : decode cL_cell 0 = .ok (.ldc 7, 2) := by decide +kernel
theorem dL_cell_2 : decode cL_cell 2 = .ok (.iload_n 1, 1) := by decide +kernel
theorem dL_cell_3 : decode cL_cell 3 = .ok (.aload_n 0, 1) := by decide +kernel
theorem dL_cell_4 : decode cL_cell 4 = .ok (.arraylength, 1) := by decide +kernel
theorem dL_cell_5 : decode cL_cell 5 = .ok (.if_icmp .ge 9, 3) := by decide +kernel
theorem dL_cell_8 : decode cL_cell 8 = .ok (.aload_n 0, 1) := by decide +kernel
theorem dL_cell_9 : decode cL_cell 9 = .ok (.iload_n 1, 1) := by decide +kernel
theorem dL_cell_10 : decode cL_cell 10 = .ok (.iaload, 1) := by decide +kernel
theorem dL_cell_11 : decode cL_cell 11 = .ok (.goto 4, 3) := by decide +kernel
theorem dL_cell_14 : decode cL_cell 14 = .ok (.iconst 0, 1) := by decide +kernel
theorem dL_cell_15 : decode cL_cell 15 = .ok (.sipush 1009, 3) := by decide +kernel
theorem dL_cell_18 : decode cL_cell 18 = .ok (.iload_n 1, 1) := by decide +kernel
theorem dL_cell_19 : decode cL_cell 19 = .ok (.imul, 1) := by decide +kernel
theorem dL_cell_20 : decode cL_cell 20 = .ok (.iadd, 1) := by decide +kernel
theorem dL_cell_21 : decode cL_cell 21 = .ok (.imul, 1) := by decide +kernel
theorem dL_cell_22 : decode cL_cell 22 = .ok (.sipush 12345, 3) := by decide +kernel
theorem dL_cell_25 : decode cL_cell 25 = .ok (.iadd, 1) := by decide +kernel
theorem dL_cell_26 : decode cL_cell 26 = .ok (.istore_n 2, 1) := by decide +kernel
theorem dL_cell_27 : decode cL_cell 27 = .ok (.iload_n 2, 1) := by decide +kernel
theorem dL_cell_28 : decode cL_cell 28 = .ok (.iload_n 2, 1) := by decide +kernel
theorem dL_cell_29 : decode cL_cell 29 = .ok (.bipush 13, 2) := by decide +kernel
theorem dL_cell_31 : decode cL_cell 31 = .ok (.iushr, 1) := by decide +kernel
theorem dL_cell_32 : decode cL_cell 32 = .ok (.ixor, 1) := by decide +kernel
theorem dL_cell_33 : decode cL_cell 33 = .ok (.ldc 8, 2) := by decide +kernel
theorem dL_cell_35 : decode cL_cell 35 = .ok (.imul, 1) := by decide +kernel
theorem dL_cell_36 : decode cL_cell 36 = .ok (.istore_n 2, 1) := by decide +kernel
theorem dL_cell_37 : decode cL_cell 37 = .ok (.iload_n 2, 1) := by decide +kernel
theorem dL_cell_38 : decode cL_cell 38 = .ok (.iload_n 2, 1) := by decide +kernel
theorem dL_cell_39 : decode cL_cell 39 = .ok (.bipush 16, 2) := by decide +kernel
theorem dL_cell_41 : decode cL_cell 41 = .ok (.iushr, 1) := by decide +kernel
theorem dL_cell_42 : decode cL_cell 42 = .ok (.ixor, 1) := by decide +kernel
theorem dL_cell_43 : decode cL_cell 43 = .ok (.ireturn, 1) := by decide +kernel
theorem dL_seat_0 : decode cL_seat 0 = .ok (.aload_n 0, 1) := by decide +kernel
theorem dL_seat_1 : decode cL_seat 1 = .ok (.iload_n 1, 1) := by decide +kernel
theorem dL_seat_2 : decode cL_seat 2 = .ok (.iload_n 2, 1) := by decide +kernel
theorem dL_seat_3 : decode cL_seat 3 = .ok (.invokevirtual 9, 3) := by decide +kernel
theorem dL_seat_6 : decode cL_seat 6 = .ok (.ireturn, 1) := by decide +kernel
theorem dL_seat_7 : decode cL_seat 7 = .ok (.astore_n 3, 1) := by decide +kernel
theorem dL_seat_8 : decode cL_seat 8 = .ok (.ldc 17, 2) := by decide +kernel
theorem dL_seat_10 : decode cL_seat 10 = .ok (.ireturn, 1) := by decide +kernel
theorem dL_seat_11 : decode cL_seat 11 = .ok (.astore_n 3, 1) := by decide +kernel
theorem dL_seat_12 : decode cL_seat 12 = .ok (.ldc 20, 2) := by decide +kernel
theorem dL_seat_14 : decode cL_seat 14 = .ok (.ireturn, 1) := by decide +kernel
theorem dL_web_0 : decode cL_web 0 = .ok (.aload_n 0, 1) := by decide +kernel
theorem dL_web_1 : decode cL_web 1 = .ok (.iload_n 1, 1) := by decide +kernel
theorem dL_web_2 : decode cL_web 2 = .ok (.iload_n 2, 1) := by decide +kernel
theorem dL_web_3 : decode cL_web 3 = .ok (.invokevirtual 21, 3) := by decide +kernel
theorem dL_web_6 : decode cL_web 6 = .ok (.ireturn, 1) := by decide +kernel
theorem dL_web_7 : decode cL_web 7 = .ok (.astore_n 3, 1) := by decide +kernel
theorem dL_web_8 : decode cL_web 8 = .ok (.ldc 17, 2) := by decide +kernel
theorem dL_web_10 : decode cL_web 10 = .ok (.ireturn, 1) := by decide +kernel
theorem dL_web_11 : decode cL_web 11 = .ok (.astore_n 3, 1) := by decide +kernel
theorem dL_web_12 : decode cL_web 12 = .ok (.ldc 20, 2) := by decide +kernel
theorem dL_web_14 : decode cL_web 14 = .ok (.ireturn, 1) := by decide +kernel
theorem dL_web_15 : decode cL_web 15 = .ok (.astore_n 3, 1) := by decide +kernel
theorem dL_web_16 : decode cL_web 16 = .ok (.ldc 28, 2) := by decide +kernel
theorem dL_web_18 : decode cL_web 18 = .ok (.ireturn, 1) := by decide +kernel
theorem dL_spring_0 : decode cL_spring 0 = .ok (.aload_n 0, 1) := by decide +kernel
theorem dL_spring_1 : decode cL_spring 1 = .ok (.iload_n 1, 1) := by decide +kernel
theorem dL_spring_2 : decode cL_spring 2 = .ok (.iload_n 2, 1) := by decide +kernel
theorem dL_spring_3 : decode cL_spring 3 = .ok (.iload_n 3, 1) := by decide +kernel
theorem dL_spring_4 : decode cL_spring 4 = .ok (.invokevirtual 29, 3) := by decide +kernel
theorem dL_spring_7 : decode cL_spring 7 = .ok (.ireturn, 1) := by decide +kernel
theorem dL_spring_8 : decode cL_spring 8 = .ok (.astore 4, 2) := by decide +kernel
theorem dL_spring_10 : decode cL_spring 10 = .ok (.ldc 17, 2) := by decide +kernel
theorem dL_spring_12 : decode cL_spring 12 = .ok (.ireturn, 1) := by decide +kernel
theorem dL_spring_13 : decode cL_spring 13 = .ok (.astore 4, 2) := by decide +kernel
theorem dL_spring_15 : decode cL_spring 15 = .ok (.ldc 20, 2) := by decide +kernel
theorem dL_spring_17 : decode cL_spring 17 = .ok (.ireturn, 1) := by decide +kernel
theorem dL_spring_18 : decode cL_spring 18 = .ok (.astore 4, 2) := by decide +kernel
theorem dL_spring_20 : decode cL_spring 20 = .ok (.ldc 28, 2) := by decide +kernel
theorem dL_spring_22 : decode cL_spring 22 = .ok (.ireturn, 1) := by decide +kernel
theorem dL_change_0 : decode cL_change 0 = .ok (.aload_n 0, 1) := by decide +kernel
theorem dL_change_1 : decode cL_change 1 = .ok (.iload_n 1, 1) := by decide +kernel
theorem dL_change_2 : decode cL_change 2 = .ok (.iload_n 2, 1) := by decide +kernel
theorem dL_change_3 : decode cL_change 3 = .ok (.iload_n 3, 1) := by decide +kernel
theorem dL_change_4 : decode cL_change 4 = .ok (.iload 4, 2) := by decide +kernel
theorem dL_change_6 : decode cL_change 6 = .ok (.invokevirtual 33, 3) := by decide +kernel
theorem dL_change_9 : decode cL_change 9 = .ok (.ireturn, 1) := by decide +kernel
theorem dL_change_10 : decode cL_change 10 = .ok (.astore 5, 2) := by decide +kernel
theorem dL_change_12 : decode cL_change 12 = .ok (.ldc 17, 2) := by decide +kernel
theorem dL_change_14 : decode cL_change 14 = .ok (.ireturn, 1) := by decide +kernel
theorem dL_change_15 : decode cL_change 15 = .ok (.astore 5, 2) := by decide +kernel
theorem dL_change_17 : decode cL_change 17 = .ok (.ldc 20, 2) := by decide +kernel
theorem dL_change_19 : decode cL_change 19 = .ok (.ireturn, 1) := by decide +kernel
theorem dL_change_20 : decode cL_change 20 = .ok (.astore 5, 2) := by decide +kernel
theorem dL_change_22 : decode cL_change 22 = .ok (.ldc 28, 2) := by decide +kernel
theorem dL_change_24 : decode cL_change 24 = .ok (.ireturn, 1) := by decide +kernel
theorem dL_tie_0 : decode cL_tie 0 = .ok (.aload_n 0, 1) := by decide +kernel
theorem dL_tie_1 : decode cL_tie 1 = .ok (.iload_n 1, 1) := by decide +kernel
theorem dL_tie_2 : decode cL_tie 2 = .ok (.invokevirtual 37, 3) := by decide +kernel
theorem dL_tie_5 : decode cL_tie 5 = .ok (.ireturn, 1) := by decide +kernel
theorem dL_tie_6 : decode cL_tie 6 = .ok (.astore_n 2, 1) := by decide +kernel
theorem dL_tie_7 : decode cL_tie 7 = .ok (.ldc 17, 2) := by decide +kernel
theorem dL_tie_9 : decode cL_tie 9 = .ok (.ireturn, 1) := by decide +kernel
theorem dL_tie_10 : decode cL_tie 10 = .ok (.astore_n 2, 1) := by decide +kernel
theorem dL_tie_11 : decode cL_tie 11 = .ok (.ldc 20, 2) := by decide +kernel
theorem dL_tie_13 : decode cL_tie 13 = .ok (.ireturn, 1) := by decide +kernel
theorem dL_pull_0 : decode cL_pull 0 = .ok (.aload_n 0, 1) := by decide +kernel
theorem dL_pull_1 : decode cL_pull 1 = .ok (.iload_n 1, 1) := by decide +kernel
theorem dL_pull_2 : decode cL_pull 2 = .ok (.iload_n 2, 1) := by decide +kernel
theorem dL_pull_3 : decode cL_pull 3 = .ok (.iload_n 3, 1) := by decide +kernel
theorem dL_pull_4 : decode cL_pull 4 = .ok (.iload 4, 2) := by decide +kernel
theorem dL_pull_6 : decode cL_pull 6 = .ok (.invokevirtual 41, 3) := by decide +kernel
theorem dL_pull_9 : decode cL_pull 9 = .ok (.ireturn, 1) := by decide +kernel
theorem dL_pull_10 : decode cL_pull 10 = .ok (.astore 5, 2) := by decide +kernel
theorem dL_pull_12 : decode cL_pull 12 = .ok (.ldc 17, 2) := by decide +kernel
theorem dL_pull_14 : decode cL_pull 14 = .ok (.ireturn, 1) := by decide +kernel
theorem dL_pull_15 : decode cL_pull 15 = .ok (.astore 5, 2) := by decide +kernel
theorem dL_pull_17 : decode cL_pull 17 = .ok (.ldc 20, 2) := by decide +kernel
theorem dL_pull_19 : decode cL_pull 19 = .ok (.ireturn, 1) := by decide +kernel
theorem dL_pull_20 : decode cL_pull 20 = .ok (.astore 5, 2) := by decide +kernel
theorem dL_pull_22 : decode cL_pull 22 = .ok (.ldc 28, 2) := by decide +kernel
theorem dL_pull_24 : decode cL_pull 24 = .ok (.ireturn, 1) := by decide +kernel
theorem dL_layer_0 : decode cL_layer 0 = .ok (.aload_n 0, 1) := by decide +kernel
theorem dL_layer_1 : decode cL_layer 1 = .ok (.iload_n 1, 1) := by decide +kernel
theorem dL_layer_2 : decode cL_layer 2 = .ok (.iload_n 2, 1) := by decide +kernel
theorem dL_layer_3 : decode cL_layer 3 = .ok (.iload_n 3, 1) := by decide +kernel
theorem dL_layer_4 : decode cL_layer 4 = .ok (.iload 4, 2) := by decide +kernel
theorem dL_layer_6 : decode cL_layer 6 = .ok (.invokevirtual 45, 3) := by decide +kernel
theorem dL_layer_9 : decode cL_layer 9 = .ok (.ireturn, 1) := by decide +kernel
theorem dL_layer_10 : decode cL_layer 10 = .ok (.astore 5, 2) := by decide +kernel
theorem dL_layer_12 : decode cL_layer 12 = .ok (.ldc 17, 2) := by decide +kernel
theorem dL_layer_14 : decode cL_layer 14 = .ok (.ireturn, 1) := by decide +kernel
theorem dL_layer_15 : decode cL_layer 15 = .ok (.astore 5, 2) := by decide +kernel
theorem dL_layer_17 : decode cL_layer 17 = .ok (.ldc 20, 2) := by decide +kernel
theorem dL_layer_19 : decode cL_layer 19 = .ok (.ireturn, 1) := by decide +kernel
theorem dL_layer_20 : decode cL_layer 20 = .ok (.astore 5, 2) := by decide +kernel
theorem dL_layer_22 : decode cL_layer 22 = .ok (.ldc 28, 2) := by decide +kernel
theorem dL_layer_24 : decode cL_layer 24 = .ok (.ireturn, 1) := by decide +kernel
theorem dL_buttons_0 : decode cL_buttons 0 = .ok (.aload_n 0, 1) := by decide +kernel
theorem dL_buttons_1 : decode cL_buttons 1 = .ok (.iload_n 1, 1) := by decide +kernel
theorem dL_buttons_2 : decode cL_buttons 2 = .ok (.invokevirtual 49, 3) := by decide +kernel
theorem dL_buttons_5 : decode cL_buttons 5 = .ok (.ireturn, 1) := by decide +kernel
theorem dL_buttons_6 : decode cL_buttons 6 = .ok (.astore_n 2, 1) := by decide +kernel
theorem dL_buttons_7 : decode cL_buttons 7 = .ok (.ldc 17, 2) := by decide +kernel
theorem dL_buttons_9 : decode cL_buttons 9 = .ok (.ireturn, 1) := by decide +kernel
theorem dL_buttons_10 : decode cL_buttons 10 = .ok (.astore_n 2, 1) := by decide +kernel
theorem dL_buttons_11 : decode cL_buttons 11 = .ok (.ldc 20, 2) := by decide +kernel
theorem dL_buttons_13 : decode cL_buttons 13 = .ok (.ireturn, 1) := by decide +kernel
theorem dL_draw_0 : decode cL_draw 0 = .ok (.aload_n 0, 1) := by decide +kernel
theorem dL_draw_1 : decode cL_draw 1 = .ok (.iload_n 1, 1) := by decide +kernel
theorem dL_draw_2 : decode cL_draw 2 = .ok (.iload_n 2, 1) := by decide +kernel
theorem dL_draw_3 : decode cL_draw 3 = .ok (.iload_n 3, 1) := by decide +kernel
theorem dL_draw_4 : decode cL_draw 4 = .ok (.invokevirtual 52, 3) := by decide +kernel
theorem dL_draw_7 : decode cL_draw 7 = .ok (.ireturn, 1) := by decide +kernel
theorem dL_draw_8 : decode cL_draw 8 = .ok (.astore 4, 2) := by decide +kernel
theorem dL_draw_10 : decode cL_draw 10 = .ok (.ldc 17, 2) := by decide +kernel
theorem dL_draw_12 : decode cL_draw 12 = .ok (.ireturn, 1) := by decide +kernel
theorem dL_draw_13 : decode cL_draw 13 = .ok (.astore 4, 2) := by decide +kernel
theorem dL_draw_15 : decode cL_draw 15 = .ok (.ldc 20, 2) := by decide +kernel
theorem dL_draw_17 : decode cL_draw 17 = .ok (.ireturn, 1) := by decide +kernel
theorem dL_draw_18 : decode cL_draw 18 = .ok (.astore 4, 2) := by decide +kernel
theorem dL_draw_20 : decode cL_draw 20 = .ok (.ldc 28, 2) := by decide +kernel
theorem dL_draw_22 : decode cL_draw 22 = .ok (.ireturn, 1) := by decide +kernel
theorem dL_draw_23 : decode cL_draw 23 = .ok (.astore 4, 2) := by decide +kernel
theorem dL_draw_25 : decode cL_draw 25 = .ok (.ldc 55, 2) := by decide +kernel
theorem dL_draw_27 : decode cL_draw 27 = .ok (.ireturn, 1) := by decide +kernel
theorem dL_cover_0 : decode cL_cover 0 = .ok (.aload_n 0, 1) := by decide +kernel
theorem dL_cover_1 : decode cL_cover 1 = .ok (.iload_n 1, 1) := by decide +kernel
theorem dL_cover_2 : decode cL_cover 2 = .ok (.iload_n 2, 1) := by decide +kernel
theorem dL_cover_3 : decode cL_cover 3 = .ok (.iload_n 3, 1) := by decide +kernel
theorem dL_cover_4 : decode cL_cover 4 = .ok (.invokevirtual 56, 3) := by decide +kernel
theorem dL_cover_7 : decode cL_cover 7 = .ok (.ireturn, 1) := by decide +kernel
theorem dL_cover_8 : decode cL_cover 8 = .ok (.astore 4, 2) := by decide +kernel
theorem dL_cover_10 : decode cL_cover 10 = .ok (.ldc 17, 2) := by decide +kernel
theorem dL_cover_12 : decode cL_cover 12 = .ok (.ireturn, 1) := by decide +kernel
theorem dL_cover_13 : decode cL_cover 13 = .ok (.astore 4, 2) := by decide +kernel
theorem dL_cover_15 : decode cL_cover 15 = .ok (.ldc 20, 2) := by decide +kernel
theorem dL_cover_17 : decode cL_cover 17 = .ok (.ireturn, 1) := by decide +kernel
theorem dL_cover_18 : decode cL_cover 18 = .ok (.astore 4, 2) := by decide +kernel
theorem dL_cover_20 : decode cL_cover 20 = .ok (.ldc 28, 2) := by decide +kernel
theorem dL_cover_22 : decode cL_cover 22 = .ok (.ireturn, 1) := by decide +kernel
theorem dL_cover_23 : decode cL_cover 23 = .ok (.astore 4, 2) := by decide +kernel
theorem dL_cover_25 : decode cL_cover 25 = .ok (.ldc 55, 2) := by decide +kernel
theorem dL_cover_27 : decode cL_cover 27 = .ok (.ireturn, 1) := by decide +kernel
theorem dL_sign_0 : decode cL_sign 0 = .ok (.aload_n 0, 1) := by decide +kernel
theorem dL_sign_1 : decode cL_sign 1 = .ok (.iload_n 1, 1) := by decide +kernel
theorem dL_sign_2 : decode cL_sign 2 = .ok (.invokevirtual 61, 3) := by decide +kernel
theorem dL_sign_5 : decode cL_sign 5 = .ok (.ireturn, 1) := by decide +kernel
theorem dL_sign_6 : decode cL_sign 6 = .ok (.astore_n 2, 1) := by decide +kernel
theorem dL_sign_7 : decode cL_sign 7 = .ok (.ldc 17, 2) := by decide +kernel
theorem dL_sign_9 : decode cL_sign 9 = .ok (.ireturn, 1) := by decide +kernel
theorem dL_sign_10 : decode cL_sign 10 = .ok (.astore_n 2, 1) := by decide +kernel
theorem dL_sign_11 : decode cL_sign 11 = .ok (.ldc 20, 2) := by decide +kernel
theorem dL_sign_13 : decode cL_sign 13 = .ok (.ireturn, 1) := by decide +kernel
theorem dL_stands_0 : decode cL_stands 0 = .ok (.aload_n 0, 1) := by decide +kernel
theorem dL_stands_1 : decode cL_stands 1 = .ok (.iload_n 1, 1) := by decide +kernel
theorem dL_stands_2 : decode cL_stands 2 = .ok (.iload_n 2, 1) := by decide +kernel
theorem dL_stands_3 : decode cL_stands 3 = .ok (.invokevirtual 64, 3) := by decide +kernel
theorem dL_stands_6 : decode cL_stands 6 = .ok (.ireturn, 1) := by decide +kernel
theorem dL_stands_7 : decode cL_stands 7 = .ok (.astore_n 3, 1) := by decide +kernel
theorem dL_stands_8 : decode cL_stands 8 = .ok (.ldc 17, 2) := by decide +kernel
theorem dL_stands_10 : decode cL_stands 10 = .ok (.ireturn, 1) := by decide +kernel
theorem dL_thick_0 : decode cL_thick 0 = .ok (.aload_n 0, 1) := by decide +kernel
theorem dL_thick_1 : decode cL_thick 1 = .ok (.iload_n 1, 1) := by decide +kernel
theorem dL_thick_2 : decode cL_thick 2 = .ok (.iload_n 2, 1) := by decide +kernel
theorem dL_thick_3 : decode cL_thick 3 = .ok (.invokevirtual 67, 3) := by decide +kernel
theorem dL_thick_6 : decode cL_thick 6 = .ok (.ireturn, 1) := by decide +kernel
theorem dL_thick_7 : decode cL_thick 7 = .ok (.astore_n 3, 1) := by decide +kernel
theorem dL_thick_8 : decode cL_thick 8 = .ok (.ldc 17, 2) := by decide +kernel
theorem dL_thick_10 : decode cL_thick 10 = .ok (.ireturn, 1) := by decide +kernel
theorem dL_thick_11 : decode cL_thick 11 = .ok (.astore_n 3, 1) := by decide +kernel
theorem dL_thick_12 : decode cL_thick 12 = .ok (.ldc 20, 2) := by decide +kernel
theorem dL_thick_14 : decode cL_thick 14 = .ok (.ireturn, 1) := by decide +kernel
theorem dL_top_0 : decode cL_top 0 = .ok (.aload_n 0, 1) := by decide +kernel
theorem dL_top_1 : decode cL_top 1 = .ok (.iload_n 1, 1) := by decide +kernel
theorem dL_top_2 : decode cL_top 2 = .ok (.iload_n 2, 1) := by decide +kernel
theorem dL_top_3 : decode cL_top 3 = .ok (.invokevirtual 70, 3) := by decide +kernel
theorem dL_top_6 : decode cL_top 6 = .ok (.ireturn, 1) := by decide +kernel
theorem dL_top_7 : decode cL_top 7 = .ok (.astore_n 3, 1) := by decide +kernel
theorem dL_top_8 : decode cL_top 8 = .ok (.ldc 17, 2) := by decide +kernel
theorem dL_top_10 : decode cL_top 10 = .ok (.ireturn, 1) := by decide +kernel
theorem dL_cloth_0 : decode cL_cloth 0 = .ok (.aload_n 0, 1) := by decide +kernel
theorem dL_cloth_1 : decode cL_cloth 1 = .ok (.iload_n 1, 1) := by decide +kernel
theorem dL_cloth_2 : decode cL_cloth 2 = .ok (.iload_n 2, 1) := by decide +kernel
theorem dL_cloth_3 : decode cL_cloth 3 = .ok (.invokevirtual 73, 3) := by decide +kernel
theorem dL_cloth_6 : decode cL_cloth 6 = .ok (.ireturn, 1) := by decide +kernel
theorem dL_cloth_7 : decode cL_cloth 7 = .ok (.astore_n 3, 1) := by decide +kernel
theorem dL_cloth_8 : decode cL_cloth 8 = .ok (.ldc 17, 2) := by decide +kernel
theorem dL_cloth_10 : decode cL_cloth 10 = .ok (.ireturn, 1) := by decide +kernel
theorem dL_cloth_11 : decode cL_cloth 11 = .ok (.astore_n 3, 1) := by decide +kernel
theorem dL_cloth_12 : decode cL_cloth 12 = .ok (.ldc 20, 2) := by decide +kernel
theorem dL_cloth_14 : decode cL_cloth 14 = .ok (.ireturn, 1) := by decide +kernel
theorem dL_use_0 : decode cL_use 0 = .ok (.aload_n 0, 1) := by decide +kernel
theorem dL_use_1 : decode cL_use 1 = .ok (.iload_n 1, 1) := by decide +kernel
theorem dL_use_2 : decode cL_use 2 = .ok (.iload_n 2, 1) := by decide +kernel
theorem dL_use_3 : decode cL_use 3 = .ok (.invokevirtual 76, 3) := by decide +kernel
theorem dL_use_6 : decode cL_use 6 = .ok (.ireturn, 1) := by decide +kernel
theorem dL_use_7 : decode cL_use 7 = .ok (.astore_n 3, 1) := by decide +kernel
theorem dL_use_8 : decode cL_use 8 = .ok (.ldc 17, 2) := by decide +kernel
theorem dL_use_10 : decode cL_use 10 = .ok (.ireturn, 1) := by decide +kernel
theorem dL_use_11 : decode cL_use 11 = .ok (.astore_n 3, 1) := by decide +kernel
theorem dL_use_12 : decode cL_use 12 = .ok (.ldc 20, 2) := by decide +kernel
theorem dL_use_14 : decode cL_use 14 = .ok (.ireturn, 1) := by decide +kernel
theorem dL_use_15 : decode cL_use 15 = .ok (.astore_n 3, 1) := by decide +kernel
theorem dL_use_16 : decode cL_use 16 = .ok (.ldc 28, 2) := by decide +kernel
theorem dL_use_18 : decode cL_use 18 = .ok (.ireturn, 1) := by decide +kernel
theorem dL_pound_0 : decode cL_pound 0 = .ok (.aload_n 0, 1) := by decide +kernel
theorem dL_pound_1 : decode cL_pound 1 = .ok (.iload_n 1, 1) := by decide +kernel
theorem dL_pound_2 : decode cL_pound 2 = .ok (.iload_n 2, 1) := by decide +kernel
theorem dL_pound_3 : decode cL_pound 3 = .ok (.invokevirtual 79, 3) := by decide +kernel
theorem dL_pound_6 : decode cL_pound 6 = .ok (.ireturn, 1) := by decide +kernel
theorem dL_pound_7 : decode cL_pound 7 = .ok (.astore_n 3, 1) := by decide +kernel
theorem dL_pound_8 : decode cL_pound 8 = .ok (.ldc 17, 2) := by decide +kernel
theorem dL_pound_10 : decode cL_pound 10 = .ok (.ireturn, 1) := by decide +kernel
theorem dL_pound_11 : decode cL_pound 11 = .ok (.astore_n 3, 1) := by decide +kernel
theorem dL_pound_12 : decode cL_pound 12 = .ok (.ldc 20, 2) := by decide +kernel
theorem dL_pound_14 : decode cL_pound 14 = .ok (.ireturn, 1) := by decide +kernel
theorem dL_pound_15 : decode cL_pound 15 = .ok (.astore_n 3, 1) := by decide +kernel
theorem dL_pound_16 : decode cL_pound 16 = .ok (.ldc 28, 2) := by decide +kernel
theorem dL_pound_18 : decode cL_pound 18 = .ok (.ireturn, 1) := by decide +kernel
theorem dL_hours_0 : decode cL_hours 0 = .ok (.aload_n 0, 1) := by decide +kernel
theorem dL_hours_1 : decode cL_hours 1 = .ok (.iload_n 1, 1) := by decide +kernel
theorem dL_hours_2 : decode cL_hours 2 = .ok (.invokevirtual 82, 3) := by decide +kernel
theorem dL_hours_5 : decode cL_hours 5 = .ok (.ireturn, 1) := by decide +kernel
theorem dL_hours_6 : decode cL_hours 6 = .ok (.astore_n 2, 1) := by decide +kernel
theorem dL_hours_7 : decode cL_hours 7 = .ok (.ldc 17, 2) := by decide +kernel
theorem dL_hours_9 : decode cL_hours 9 = .ok (.ireturn, 1) := by decide +kernel
theorem dL_hours_10 : decode cL_hours 10 = .ok (.astore_n 2, 1) := by decide +kernel
theorem dL_hours_11 : decode cL_hours 11 = .ok (.ldc 20, 2) := by decide +kernel
theorem dL_hours_13 : decode cL_hours 13 = .ok (.ireturn, 1) := by decide +kernel
theorem dL_promise_0 : decode cL_promise 0 = .ok (.aload_n 0, 1) := by decide +kernel
theorem dL_promise_1 : decode cL_promise 1 = .ok (.iload_n 1, 1) := by decide +kernel
theorem dL_promise_2 : decode cL_promise 2 = .ok (.iload_n 2, 1) := by decide +kernel
theorem dL_promise_3 : decode cL_promise 3 = .ok (.invokevirtual 85, 3) := by decide +kernel
theorem dL_promise_6 : decode cL_promise 6 = .ok (.ireturn, 1) := by decide +kernel
theorem dL_promise_7 : decode cL_promise 7 = .ok (.astore_n 3, 1) := by decide +kernel
theorem dL_promise_8 : decode cL_promise 8 = .ok (.ldc 17, 2) := by decide +kernel
theorem dL_promise_10 : decode cL_promise 10 = .ok (.ireturn, 1) := by decide +kernel
theorem dL_promise_11 : decode cL_promise 11 = .ok (.astore_n 3, 1) := by decide +kernel
theorem dL_promise_12 : decode cL_promise 12 = .ok (.ldc 20, 2) := by decide +kernel
theorem dL_promise_14 : decode cL_promise 14 = .ok (.ireturn, 1) := by decide +kernel
theorem dL_quote_0 : decode cL_quote 0 = .ok (.aload_n 0, 1) := by decide +kernel
theorem dL_quote_1 : decode cL_quote 1 = .ok (.iload_n 1, 1) := by decide +kernel
theorem dL_quote_2 : decode cL_quote 2 = .ok (.invokevirtual 88, 3) := by decide +kernel
theorem dL_quote_5 : decode cL_quote 5 = .ok (.ireturn, 1) := by decide +kernel
theorem dL_quote_6 : decode cL_quote 6 = .ok (.astore_n 2, 1) := by decide +kernel
theorem dL_quote_7 : decode cL_quote 7 = .ok (.ldc 17, 2) := by decide +kernel
theorem dL_quote_9 : decode cL_quote 9 = .ok (.ireturn, 1) := by decide +kernel
theorem dL_in_0 : decode cL_in 0 = .ok (.aload_n 0, 1) := by decide +kernel
theorem dL_in_1 : decode cL_in 1 = .ok (.iload_n 1, 1) := by decide +kernel
theorem dL_in_2 : decode cL_in 2 = .ok (.invokestatic 91, 3) := by decide +kernel
theorem dL_in_5 : decode cL_in 5 = .ok (.ldc 97, 2) := by decide +kernel
theorem dL_in_7 : decode cL_in 7 = .ok (.iand, 1) := by decide +kernel
theorem dL_in_8 : decode cL_in 8 = .ok (.iload_n 2, 1) := by decide +kernel
theorem dL_in_9 : decode cL_in 9 = .ok (.irem, 1) := by decide +kernel
theorem dL_in_10 : decode cL_in 10 = .ok (.ireturn, 1) := by decide +kernel
theorem dL_isDone_0 : decode cL_isDone 0 = .ok (.iload_n 1, 1) := by decide +kernel
theorem dL_isDone_1 : decode cL_isDone 1 = .ok (.iload_n 2, 1) := by decide +kernel
theorem dL_isDone_2 : decode cL_isDone 2 = .ok (.if_icmp .ne 18, 3) := by decide +kernel
theorem dL_isDone_5 : decode cL_isDone 5 = .ok (.aload_n 0, 1) := by decide +kernel
theorem dL_isDone_6 : decode cL_isDone 6 = .ok (.iconst 0, 1) := by decide +kernel
theorem dL_isDone_7 : decode cL_isDone 7 = .ok (.invokestatic 98, 3) := by decide +kernel
theorem dL_isDone_10 : decode cL_isDone 10 = .ok (.iload_n 2, 1) := by decide +kernel
theorem dL_isDone_11 : decode cL_isDone 11 = .ok (.iconst 1, 1) := by decide +kernel
theorem dL_isDone_12 : decode cL_isDone 12 = .ok (.iadd, 1) := by decide +kernel
theorem dL_isDone_13 : decode cL_isDone 13 = .ok (.if_icmp .ne 7, 3) := by decide +kernel
theorem dL_isDone_16 : decode cL_isDone 16 = .ok (.iconst 1, 1) := by decide +kernel
theorem dL_isDone_17 : decode cL_isDone 17 = .ok (.goto 4, 3) := by decide +kernel
theorem dL_isDone_20 : decode cL_isDone 20 = .ok (.iconst 0, 1) := by decide +kernel
theorem dL_isDone_21 : decode cL_isDone 21 = .ok (.ireturn, 1) := by decide +kernel
theorem dL_thickOf_0 : decode cL_thickOf 0 = .ok (.iload_n 0, 1) := by decide +kernel
theorem dL_thickOf_1 : decode cL_thickOf 1 = .ok (.bipush 104, 2) := by decide +kernel
theorem dL_thickOf_3 : decode cL_thickOf 3 = .ok (.if_icmp .ne 9, 3) := by decide +kernel
theorem dL_thickOf_6 : decode cL_thickOf 6 = .ok (.sipush 1000, 3) := by decide +kernel
theorem dL_thickOf_9 : decode cL_thickOf 9 = .ok (.goto 17, 3) := by decide +kernel
theorem dL_thickOf_12 : decode cL_thickOf 12 = .ok (.iload_n 0, 1) := by decide +kernel
theorem dL_thickOf_13 : decode cL_thickOf 13 = .ok (.bipush 102, 2) := by decide +kernel
theorem dL_thickOf_15 : decode cL_thickOf 15 = .ok (.if_icmp .ne 9, 3) := by decide +kernel
theorem dL_thickOf_18 : decode cL_thickOf 18 = .ok (.sipush 400, 3) := by decide +kernel
theorem dL_thickOf_21 : decode cL_thickOf 21 = .ok (.goto 5, 3) := by decide +kernel
theorem dL_thickOf_24 : decode cL_thickOf 24 = .ok (.bipush 100, 2) := by decide +kernel
theorem dL_thickOf_26 : decode cL_thickOf 26 = .ok (.istore 4, 2) := by decide +kernel
theorem dL_thickOf_28 : decode cL_thickOf 28 = .ok (.iload_n 1, 1) := by decide +kernel
theorem dL_thickOf_29 : decode cL_thickOf 29 = .ok (.iload_n 1, 1) := by decide +kernel
theorem dL_thickOf_30 : decode cL_thickOf 30 = .ok (.i2l, 1) := by decide +kernel
theorem dL_thickOf_31 : decode cL_thickOf 31 = .ok (.iload_n 3, 1) := by decide +kernel
theorem dL_thickOf_32 : decode cL_thickOf 32 = .ok (.i2l, 1) := by decide +kernel
theorem dL_thickOf_33 : decode cL_thickOf 33 = .ok (.lmul, 1) := by decide +kernel
theorem dL_thickOf_34 : decode cL_thickOf 34 = .ok (.ldc2_w 101, 3) := by decide +kernel
theorem dL_thickOf_37 : decode cL_thickOf 37 = .ok (.iload_n 3, 1) := by decide +kernel
theorem dL_thickOf_38 : decode cL_thickOf 38 = .ok (.iload 4, 2) := by decide +kernel
theorem dL_thickOf_40 : decode cL_thickOf 40 = .ok (.iload_n 2, 1) := by decide +kernel
theorem dL_thickOf_41 : decode cL_thickOf 41 = .ok (.imul, 1) := by decide +kernel
theorem dL_thickOf_42 : decode cL_thickOf 42 = .ok (.iadd, 1) := by decide +kernel
theorem dL_thickOf_43 : decode cL_thickOf 43 = .ok (.i2l, 1) := by decide +kernel
theorem dL_thickOf_44 : decode cL_thickOf 44 = .ok (.lmul, 1) := by decide +kernel
theorem dL_thickOf_45 : decode cL_thickOf 45 = .ok (.ldiv, 1) := by decide +kernel
theorem dL_thickOf_46 : decode cL_thickOf 46 = .ok (.l2i, 1) := by decide +kernel
theorem dL_thickOf_47 : decode cL_thickOf 47 = .ok (.isub, 1) := by decide +kernel
theorem dL_thickOf_48 : decode cL_thickOf 48 = .ok (.ireturn, 1) := by decide +kernel
