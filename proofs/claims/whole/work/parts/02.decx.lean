theorem dX0_init_0 : decode cX0_init 0 = .ok (.aload_n 0, 1) := by decide +kernel
theorem dX0_init_1 : decode cX0_init 1 = .ok (.iload_n 1, 1) := by decide +kernel
theorem dX0_init_2 : decode cX0_init 2 = .ok (.iload_n 2, 1) := by decide +kernel
theorem dX0_init_3 : decode cX0_init 3 = .ok (.iload_n 3, 1) := by decide +kernel
theorem dX0_init_4 : decode cX0_init 4 = .ok (.aload 4, 2) := by decide +kernel
theorem dX0_init_6 : decode cX0_init 6 = .ok (.invokespecial 3, 3) := by decide +kernel
theorem dX0_init_9 : decode cX0_init 9 = .ok (.return_, 1) := by decide +kernel
theorem dX0_shown_0 : decode cX0_shown 0 = .ok (.bipush 30, 2) := by decide +kernel
theorem dX0_shown_2 : decode cX0_shown 2 = .ok (.aload_n 1, 1) := by decide +kernel
theorem dX0_shown_3 : decode cX0_shown 3 = .ok (.iload_n 3, 1) := by decide +kernel
theorem dX0_shown_4 : decode cX0_shown 4 = .ok (.iconst 5, 1) := by decide +kernel
theorem dX0_shown_5 : decode cX0_shown 5 = .ok (.invokevirtual 9, 3) := by decide +kernel
theorem dX0_shown_8 : decode cX0_shown 8 = .ok (.imul, 1) := by decide +kernel
theorem dX0_shown_9 : decode cX0_shown 9 = .ok (.ireturn, 1) := by decide +kernel
theorem dX0_shownWithNames_0 : decode cX0_shownWithNames 0 = .ok (.aload_n 0, 1) := by decide +kernel
theorem dX0_shownWithNames_1 : decode cX0_shownWithNames 1 = .ok (.aload_n 1, 1) := by decide +kernel
theorem dX0_shownWithNames_2 : decode cX0_shownWithNames 2 = .ok (.iload_n 2, 1) := by decide +kernel
theorem dX0_shownWithNames_3 : decode cX0_shownWithNames 3 = .ok (.iload_n 3, 1) := by decide +kernel
theorem dX0_shownWithNames_4 : decode cX0_shownWithNames 4 = .ok (.invokespecial 15, 3) := by decide +kernel
theorem dX0_shownWithNames_7 : decode cX0_shownWithNames 7 = .ok (.ireturn, 1) := by decide +kernel
theorem dX0_sums_0 : decode cX0_sums 0 = .ok (.aload_n 0, 1) := by decide +kernel
theorem dX0_sums_1 : decode cX0_sums 1 = .ok (.getfield 19, 3) := by decide +kernel
theorem dX0_sums_4 : decode cX0_sums 4 = .ok (.bipush 70, 2) := by decide +kernel
theorem dX0_sums_6 : decode cX0_sums 6 = .ok (.invokevirtual 25, 3) := by decide +kernel
theorem dX0_sums_9 : decode cX0_sums 9 = .ok (.aload_n 0, 1) := by decide +kernel
theorem dX0_sums_10 : decode cX0_sums 10 = .ok (.iload_n 1, 1) := by decide +kernel
theorem dX0_sums_11 : decode cX0_sums 11 = .ok (.invokespecial 31, 3) := by decide +kernel
theorem dX0_sums_14 : decode cX0_sums 14 = .ok (.iconst 5, 1) := by decide +kernel
theorem dX0_sums_15 : decode cX0_sums 15 = .ok (.ixor, 1) := by decide +kernel
theorem dX0_sums_16 : decode cX0_sums 16 = .ok (.ireturn, 1) := by decide +kernel
theorem dX0_asks_0 : decode cX0_asks 0 = .ok (.aload_n 0, 1) := by decide +kernel
theorem dX0_asks_1 : decode cX0_asks 1 = .ok (.getfield 19, 3) := by decide +kernel
theorem dX0_asks_4 : decode cX0_asks 4 = .ok (.bipush 71, 2) := by decide +kernel
theorem dX0_asks_6 : decode cX0_asks 6 = .ok (.invokevirtual 25, 3) := by decide +kernel
theorem dX0_asks_9 : decode cX0_asks 9 = .ok (.aload_n 0, 1) := by decide +kernel
theorem dX0_asks_10 : decode cX0_asks 10 = .ok (.iload_n 1, 1) := by decide +kernel
theorem dX0_asks_11 : decode cX0_asks 11 = .ok (.aload_n 0, 1) := by decide +kernel
theorem dX0_asks_12 : decode cX0_asks 12 = .ok (.getfield 35, 3) := by decide +kernel
theorem dX0_asks_15 : decode cX0_asks 15 = .ok (.isub, 1) := by decide +kernel
theorem dX0_asks_16 : decode cX0_asks 16 = .ok (.invokespecial 39, 3) := by decide +kernel
theorem dX0_asks_19 : decode cX0_asks 19 = .ok (.ireturn, 1) := by decide +kernel
theorem dX1_init_0 : decode cX1_init 0 = .ok (.aload_n 0, 1) := by decide +kernel
theorem dX1_init_1 : decode cX1_init 1 = .ok (.invokespecial 3, 3) := by decide +kernel
theorem dX1_init_4 : decode cX1_init 4 = .ok (.aload_n 0, 1) := by decide +kernel
theorem dX1_init_5 : decode cX1_init 5 = .ok (.aload_n 1, 1) := by decide +kernel
theorem dX1_init_6 : decode cX1_init 6 = .ok (.putfield 9, 3) := by decide +kernel
theorem dX1_init_9 : decode cX1_init 9 = .ok (.aload_n 0, 1) := by decide +kernel
theorem dX1_init_10 : decode cX1_init 10 = .ok (.bipush 48, 2) := by decide +kernel
theorem dX1_init_12 : decode cX1_init 12 = .ok (.newarray .int, 2) := by decide +kernel
theorem dX1_init_14 : decode cX1_init 14 = .ok (.putfield 15, 3) := by decide +kernel
theorem dX1_init_17 : decode cX1_init 17 = .ok (.aload_n 0, 1) := by decide +kernel
theorem dX1_init_18 : decode cX1_init 18 = .ok (.bipush 12, 2) := by decide +kernel
theorem dX1_init_20 : decode cX1_init 20 = .ok (.newarray .int, 2) := by decide +kernel
theorem dX1_init_22 : decode cX1_init 22 = .ok (.putfield 19, 3) := by decide +kernel
theorem dX1_init_25 : decode cX1_init 25 = .ok (.aload_n 0, 1) := by decide +kernel
theorem dX1_init_26 : decode cX1_init 26 = .ok (.iconst 4, 1) := by decide +kernel
theorem dX1_init_27 : decode cX1_init 27 = .ok (.newarray .int, 2) := by decide +kernel
theorem dX1_init_29 : decode cX1_init 29 = .ok (.putfield 22, 3) := by decide +kernel
theorem dX1_init_32 : decode cX1_init 32 = .ok (.aload_n 0, 1) := by decide +kernel
theorem dX1_init_33 : decode cX1_init 33 = .ok (.bipush 8, 2) := by decide +kernel
theorem dX1_init_35 : decode cX1_init 35 = .ok (.anewarray 25, 3) := by decide +kernel
theorem dX1_init_38 : decode cX1_init 38 = .ok (.putfield 27, 3) := by decide +kernel
theorem dX1_init_41 : decode cX1_init 41 = .ok (.aload_n 0, 1) := by decide +kernel
theorem dX1_init_42 : decode cX1_init 42 = .ok (.bipush 8, 2) := by decide +kernel
theorem dX1_init_44 : decode cX1_init 44 = .ok (.newarray .int, 2) := by decide +kernel
theorem dX1_init_46 : decode cX1_init 46 = .ok (.putfield 31, 3) := by decide +kernel
theorem dX1_init_49 : decode cX1_init 49 = .ok (.aload_n 0, 1) := by decide +kernel
theorem dX1_init_50 : decode cX1_init 50 = .ok (.bipush 8, 2) := by decide +kernel
theorem dX1_init_52 : decode cX1_init 52 = .ok (.newarray .int, 2) := by decide +kernel
theorem dX1_init_54 : decode cX1_init 54 = .ok (.putfield 34, 3) := by decide +kernel
theorem dX1_init_57 : decode cX1_init 57 = .ok (.aload_n 0, 1) := by decide +kernel
theorem dX1_init_58 : decode cX1_init 58 = .ok (.iconst 0, 1) := by decide +kernel
theorem dX1_init_59 : decode cX1_init 59 = .ok (.putfield 37, 3) := by decide +kernel
theorem dX1_init_62 : decode cX1_init 62 = .ok (.aload_n 0, 1) := by decide +kernel
theorem dX1_init_63 : decode cX1_init 63 = .ok (.iconst 0, 1) := by decide +kernel
theorem dX1_init_64 : decode cX1_init 64 = .ok (.putfield 41, 3) := by decide +kernel
theorem dX1_init_67 : decode cX1_init 67 = .ok (.aload_n 0, 1) := by decide +kernel
theorem dX1_init_68 : decode cX1_init 68 = .ok (.iconst 0, 1) := by decide +kernel
theorem dX1_init_69 : decode cX1_init 69 = .ok (.putfield 44, 3) := by decide +kernel
theorem dX1_init_72 : decode cX1_init 72 = .ok (.aload_n 0, 1) := by decide +kernel
theorem dX1_init_73 : decode cX1_init 73 = .ok (.iconst 1, 1) := by decide +kernel
theorem dX1_init_74 : decode cX1_init 74 = .ok (.putfield 47, 3) := by decide +kernel
theorem dX1_init_77 : decode cX1_init 77 = .ok (.return_, 1) := by decide +kernel
theorem dX1_takeOver_0 : decode cX1_takeOver 0 = .ok (.aload_n 1, 1) := by decide +kernel
theorem dX1_takeOver_1 : decode cX1_takeOver 1 = .ok (.getfield 15, 3) := by decide +kernel
theorem dX1_takeOver_4 : decode cX1_takeOver 4 = .ok (.iconst 0, 1) := by decide +kernel
theorem dX1_takeOver_5 : decode cX1_takeOver 5 = .ok (.aload_n 0, 1) := by decide +kernel
theorem dX1_takeOver_6 : decode cX1_takeOver 6 = .ok (.getfield 15, 3) := by decide +kernel
theorem dX1_takeOver_9 : decode cX1_takeOver 9 = .ok (.iconst 0, 1) := by decide +kernel
theorem dX1_takeOver_10 : decode cX1_takeOver 10 = .ok (.aload_n 0, 1) := by decide +kernel
theorem dX1_takeOver_11 : decode cX1_takeOver 11 = .ok (.getfield 15, 3) := by decide +kernel
theorem dX1_takeOver_14 : decode cX1_takeOver 14 = .ok (.arraylength, 1) := by decide +kernel
theorem dX1_takeOver_15 : decode cX1_takeOver 15 = .ok (.invokestatic 50, 3) := by decide +kernel
theorem dX1_takeOver_18 : decode cX1_takeOver 18 = .ok (.aload_n 1, 1) := by decide +kernel
theorem dX1_takeOver_19 : decode cX1_takeOver 19 = .ok (.getfield 19, 3) := by decide +kernel
theorem dX1_takeOver_22 : decode cX1_takeOver 22 = .ok (.iconst 0, 1) := by decide +kernel
theorem dX1_takeOver_23 : decode cX1_takeOver 23 = .ok (.aload_n 0, 1) := by decide +kernel
theorem dX1_takeOver_24 : decode cX1_takeOver 24 = .ok (.getfield 19, 3) := by decide +kernel
theorem dX1_takeOver_27 : decode cX1_takeOver 27 = .ok (.iconst 0, 1) := by decide +kernel
theorem dX1_takeOver_28 : decode cX1_takeOver 28 = .ok (.aload_n 0, 1) := by decide +kernel
theorem dX1_takeOver_29 : decode cX1_takeOver 29 = .ok (.getfield 19, 3) := by decide +kernel
theorem dX1_takeOver_32 : decode cX1_takeOver 32 = .ok (.arraylength, 1) := by decide +kernel
theorem dX1_takeOver_33 : decode cX1_takeOver 33 = .ok (.invokestatic 50, 3) := by decide +kernel
theorem dX1_takeOver_36 : decode cX1_takeOver 36 = .ok (.aload_n 1, 1) := by decide +kernel
theorem dX1_takeOver_37 : decode cX1_takeOver 37 = .ok (.getfield 22, 3) := by decide +kernel
theorem dX1_takeOver_40 : decode cX1_takeOver 40 = .ok (.iconst 0, 1) := by decide +kernel
theorem dX1_takeOver_41 : decode cX1_takeOver 41 = .ok (.aload_n 0, 1) := by decide +kernel
theorem dX1_takeOver_42 : decode cX1_takeOver 42 = .ok (.getfield 22, 3) := by decide +kernel
theorem dX1_takeOver_45 : decode cX1_takeOver 45 = .ok (.iconst 0, 1) := by decide +kernel
theorem dX1_takeOver_46 : decode cX1_takeOver 46 = .ok (.aload_n 0, 1) := by decide +kernel
theorem dX1_takeOver_47 : decode cX1_takeOver 47 = .ok (.getfield 22, 3) := by decide +kernel
theorem dX1_takeOver_50 : decode cX1_takeOver 50 = .ok (.arraylength, 1) := by decide +kernel
theorem dX1_takeOver_51 : decode cX1_takeOver 51 = .ok (.invokestatic 50, 3) := by decide +kernel
theorem dX1_takeOver_54 : decode cX1_takeOver 54 = .ok (.iconst 0, 1) := by decide +kernel
theorem dX1_takeOver_55 : decode cX1_takeOver 55 = .ok (.istore_n 2, 1) := by decide +kernel
theorem dX1_takeOver_56 : decode cX1_takeOver 56 = .ok (.iload_n 2, 1) := by decide +kernel
theorem dX1_takeOver_57 : decode cX1_takeOver 57 = .ok (.aload_n 0, 1) := by decide +kernel
theorem dX1_takeOver_58 : decode cX1_takeOver 58 = .ok (.getfield 27, 3) := by decide +kernel
theorem dX1_takeOver_61 : decode cX1_takeOver 61 = .ok (.arraylength, 1) := by decide +kernel
theorem dX1_takeOver_62 : decode cX1_takeOver 62 = .ok (.if_icmp .ge 21, 3) := by decide +kernel
theorem dX1_takeOver_65 : decode cX1_takeOver 65 = .ok (.aload_n 0, 1) := by decide +kernel
theorem dX1_takeOver_66 : decode cX1_takeOver 66 = .ok (.getfield 27, 3) := by decide +kernel
theorem dX1_takeOver_69 : decode cX1_takeOver 69 = .ok (.iload_n 2, 1) := by decide +kernel
theorem dX1_takeOver_70 : decode cX1_takeOver 70 = .ok (.aload_n 1, 1) := by decide +kernel
theorem dX1_takeOver_71 : decode cX1_takeOver 71 = .ok (.getfield 27, 3) := by decide +kernel
theorem dX1_takeOver_74 : decode cX1_takeOver 74 = .ok (.iload_n 2, 1) := by decide +kernel
theorem dX1_takeOver_75 : decode cX1_takeOver 75 = .ok (.aaload, 1) := by decide +kernel
theorem dX1_takeOver_76 : decode cX1_takeOver 76 = .ok (.aastore, 1) := by decide +kernel
theorem dX1_takeOver_77 : decode cX1_takeOver 77 = .ok (.iinc 2 1, 3) := by decide +kernel
theorem dX1_takeOver_80 : decode cX1_takeOver 80 = .ok (.goto (-24), 3) := by decide +kernel
theorem dX1_takeOver_83 : decode cX1_takeOver 83 = .ok (.aload_n 0, 1) := by decide +kernel
theorem dX1_takeOver_84 : decode cX1_takeOver 84 = .ok (.aload_n 1, 1) := by decide +kernel
theorem dX1_takeOver_85 : decode cX1_takeOver 85 = .ok (.getfield 37, 3) := by decide +kernel
theorem dX1_takeOver_88 : decode cX1_takeOver 88 = .ok (.putfield 37, 3) := by decide +kernel
theorem dX1_takeOver_91 : decode cX1_takeOver 91 = .ok (.aload_n 0, 1) := by decide +kernel
theorem dX1_takeOver_92 : decode cX1_takeOver 92 = .ok (.aload_n 1, 1) := by decide +kernel
theorem dX1_takeOver_93 : decode cX1_takeOver 93 = .ok (.getfield 41, 3) := by decide +kernel
theorem dX1_takeOver_96 : decode cX1_takeOver 96 = .ok (.putfield 41, 3) := by decide +kernel
theorem dX1_takeOver_99 : decode cX1_takeOver 99 = .ok (.aload_n 0, 1) := by decide +kernel
theorem dX1_takeOver_100 : decode cX1_takeOver 100 = .ok (.aload_n 1, 1) := by decide +kernel
theorem dX1_takeOver_101 : decode cX1_takeOver 101 = .ok (.getfield 44, 3) := by decide +kernel
theorem dX1_takeOver_104 : decode cX1_takeOver 104 = .ok (.putfield 44, 3) := by decide +kernel
theorem dX1_takeOver_107 : decode cX1_takeOver 107 = .ok (.aload_n 0, 1) := by decide +kernel
theorem dX1_takeOver_108 : decode cX1_takeOver 108 = .ok (.aload_n 1, 1) := by decide +kernel
theorem dX1_takeOver_109 : decode cX1_takeOver 109 = .ok (.getfield 47, 3) := by decide +kernel
theorem dX1_takeOver_112 : decode cX1_takeOver 112 = .ok (.putfield 47, 3) := by decide +kernel
theorem dX1_takeOver_115 : decode cX1_takeOver 115 = .ok (.return_, 1) := by decide +kernel
theorem dX1_comerCount_0 : decode cX1_comerCount 0 = .ok (.aload_n 0, 1) := by decide +kernel
theorem dX1_comerCount_1 : decode cX1_comerCount 1 = .ok (.getfield 37, 3) := by decide +kernel
theorem dX1_comerCount_4 : decode cX1_comerCount 4 = .ok (.ireturn, 1) := by decide +kernel
theorem dX1_askerCount_0 : decode cX1_askerCount 0 = .ok (.aload_n 0, 1) := by decide +kernel
theorem dX1_askerCount_1 : decode cX1_askerCount 1 = .ok (.getfield 41, 3) := by decide +kernel
theorem dX1_askerCount_4 : decode cX1_askerCount 4 = .ok (.ireturn, 1) := by decide +kernel
theorem dX1_wayCount_0 : decode cX1_wayCount 0 = .ok (.aload_n 0, 1) := by decide +kernel
theorem dX1_wayCount_1 : decode cX1_wayCount 1 = .ok (.getfield 44, 3) := by decide +kernel
theorem dX1_wayCount_4 : decode cX1_wayCount 4 = .ok (.ireturn, 1) := by decide +kernel
theorem dX1_seedNow_0 : decode cX1_seedNow 0 = .ok (.aload_n 0, 1) := by decide +kernel
theorem dX1_seedNow_1 : decode cX1_seedNow 1 = .ok (.getfield 47, 3) := by decide +kernel
theorem dX1_seedNow_4 : decode cX1_seedNow 4 = .ok (.ireturn, 1) := by decide +kernel
theorem dX1_putSeed_0 : decode cX1_putSeed 0 = .ok (.aload_n 0, 1) := by decide +kernel
theorem dX1_putSeed_1 : decode cX1_putSeed 1 = .ok (.iload_n 1, 1) := by decide +kernel
theorem dX1_putSeed_2 : decode cX1_putSeed 2 = .ok (.putfield 47, 3) := by decide +kernel
theorem dX1_putSeed_5 : decode cX1_putSeed 5 = .ok (.return_, 1) := by decide +kernel
theorem dX1_hasComer_0 : decode cX1_hasComer 0 = .ok (.iload_n 1, 1) := by decide +kernel
theorem dX1_hasComer_1 : decode cX1_hasComer 1 = .ok (.ifCond .lt 15, 3) := by decide +kernel
theorem dX1_hasComer_4 : decode cX1_hasComer 4 = .ok (.iload_n 1, 1) := by decide +kernel
theorem dX1_hasComer_5 : decode cX1_hasComer 5 = .ok (.aload_n 0, 1) := by decide +kernel
theorem dX1_hasComer_6 : decode cX1_hasComer 6 = .ok (.getfield 37, 3) := by decide +kernel
theorem dX1_hasComer_9 : decode cX1_hasComer 9 = .ok (.if_icmp .ge 7, 3) := by decide +kernel
theorem dX1_hasComer_12 : decode cX1_hasComer 12 = .ok (.iconst 1, 1) := by decide +kernel
theorem dX1_hasComer_13 : decode cX1_hasComer 13 = .ok (.goto 4, 3) := by decide +kernel
theorem dX1_hasComer_16 : decode cX1_hasComer 16 = .ok (.iconst 0, 1) := by decide +kernel
theorem dX1_hasComer_17 : decode cX1_hasComer 17 = .ok (.ireturn, 1) := by decide +kernel
theorem dX1_hasAsker_0 : decode cX1_hasAsker 0 = .ok (.iload_n 1, 1) := by decide +kernel
theorem dX1_hasAsker_1 : decode cX1_hasAsker 1 = .ok (.ifCond .lt 15, 3) := by decide +kernel
theorem dX1_hasAsker_4 : decode cX1_hasAsker 4 = .ok (.iload_n 1, 1) := by decide +kernel
theorem dX1_hasAsker_5 : decode cX1_hasAsker 5 = .ok (.aload_n 0, 1) := by decide +kernel
theorem dX1_hasAsker_6 : decode cX1_hasAsker 6 = .ok (.getfield 41, 3) := by decide +kernel
theorem dX1_hasAsker_9 : decode cX1_hasAsker 9 = .ok (.if_icmp .ge 7, 3) := by decide +kernel
theorem dX1_hasAsker_12 : decode cX1_hasAsker 12 = .ok (.iconst 1, 1) := by decide +kernel
theorem dX1_hasAsker_13 : decode cX1_hasAsker 13 = .ok (.goto 4, 3) := by decide +kernel
theorem dX1_hasAsker_16 : decode cX1_hasAsker 16 = .ok (.iconst 0, 1) := by decide +kernel
theorem dX1_hasAsker_17 : decode cX1_hasAsker 17 = .ok (.ireturn, 1) := by decide +kernel
theorem dX1_wayAt_0 : decode cX1_wayAt 0 = .ok (.iload_n 1, 1) := by decide +kernel
theorem dX1_wayAt_1 : decode cX1_wayAt 1 = .ok (.ifCond .lt 20, 3) := by decide +kernel
theorem dX1_wayAt_4 : decode cX1_wayAt 4 = .ok (.iload_n 1, 1) := by decide +kernel
theorem dX1_wayAt_5 : decode cX1_wayAt 5 = .ok (.aload_n 0, 1) := by decide +kernel
theorem dX1_wayAt_6 : decode cX1_wayAt 6 = .ok (.getfield 44, 3) := by decide +kernel
theorem dX1_wayAt_9 : decode cX1_wayAt 9 = .ok (.if_icmp .ge 12, 3) := by decide +kernel
theorem dX1_wayAt_12 : decode cX1_wayAt 12 = .ok (.iload_n 1, 1) := by decide +kernel
theorem dX1_wayAt_13 : decode cX1_wayAt 13 = .ok (.aload_n 0, 1) := by decide +kernel
theorem dX1_wayAt_14 : decode cX1_wayAt 14 = .ok (.getfield 27, 3) := by decide +kernel
theorem dX1_wayAt_17 : decode cX1_wayAt 17 = .ok (.arraylength, 1) := by decide +kernel
theorem dX1_wayAt_18 : decode cX1_wayAt 18 = .ok (.if_icmp .lt 7, 3) := by decide +kernel
theorem dX1_wayAt_21 : decode cX1_wayAt 21 = .ok (.aconst_null, 1) := by decide +kernel
theorem dX1_wayAt_22 : decode cX1_wayAt 22 = .ok (.goto 9, 3) := by decide +kernel
theorem dX1_wayAt_25 : decode cX1_wayAt 25 = .ok (.aload_n 0, 1) := by decide +kernel
theorem dX1_wayAt_26 : decode cX1_wayAt 26 = .ok (.getfield 27, 3) := by decide +kernel
theorem dX1_wayAt_29 : decode cX1_wayAt 29 = .ok (.iload_n 1, 1) := by decide +kernel
theorem dX1_wayAt_30 : decode cX1_wayAt 30 = .ok (.aaload, 1) := by decide +kernel
theorem dX1_wayAt_31 : decode cX1_wayAt 31 = .ok (.areturn, 1) := by decide +kernel
theorem dX1_hasRoomFor_0 : decode cX1_hasRoomFor 0 = .ok (.iload_n 1, 1) := by decide +kernel
theorem dX1_hasRoomFor_1 : decode cX1_hasRoomFor 1 = .ok (.tableswitch 71 0 2 #[27, 42, 56], 27) := by decide +kernel
theorem dX1_hasRoomFor_28 : decode cX1_hasRoomFor 28 = .ok (.aload_n 0, 1) := by decide +kernel
theorem dX1_hasRoomFor_29 : decode cX1_hasRoomFor 29 = .ok (.getfield 37, 3) := by decide +kernel
theorem dX1_hasRoomFor_32 : decode cX1_hasRoomFor 32 = .ok (.bipush 8, 2) := by decide +kernel
theorem dX1_hasRoomFor_34 : decode cX1_hasRoomFor 34 = .ok (.if_icmp .ge 7, 3) := by decide +kernel
theorem dX1_hasRoomFor_37 : decode cX1_hasRoomFor 37 = .ok (.iconst 1, 1) := by decide +kernel
theorem dX1_hasRoomFor_38 : decode cX1_hasRoomFor 38 = .ok (.goto 4, 3) := by decide +kernel
theorem dX1_hasRoomFor_41 : decode cX1_hasRoomFor 41 = .ok (.iconst 0, 1) := by decide +kernel
theorem dX1_hasRoomFor_42 : decode cX1_hasRoomFor 42 = .ok (.ireturn, 1) := by decide +kernel
theorem dX1_hasRoomFor_43 : decode cX1_hasRoomFor 43 = .ok (.aload_n 0, 1) := by decide +kernel
theorem dX1_hasRoomFor_44 : decode cX1_hasRoomFor 44 = .ok (.getfield 41, 3) := by decide +kernel
theorem dX1_hasRoomFor_47 : decode cX1_hasRoomFor 47 = .ok (.iconst 4, 1) := by decide +kernel
theorem dX1_hasRoomFor_48 : decode cX1_hasRoomFor 48 = .ok (.if_icmp .ge 7, 3) := by decide +kernel
theorem dX1_hasRoomFor_51 : decode cX1_hasRoomFor 51 = .ok (.iconst 1, 1) := by decide +kernel
theorem dX1_hasRoomFor_52 : decode cX1_hasRoomFor 52 = .ok (.goto 4, 3) := by decide +kernel
theorem dX1_hasRoomFor_55 : decode cX1_hasRoomFor 55 = .ok (.iconst 0, 1) := by decide +kernel
theorem dX1_hasRoomFor_56 : decode cX1_hasRoomFor 56 = .ok (.ireturn, 1) := by decide +kernel
theorem dX1_hasRoomFor_57 : decode cX1_hasRoomFor 57 = .ok (.aload_n 0, 1) := by decide +kernel
theorem dX1_hasRoomFor_58 : decode cX1_hasRoomFor 58 = .ok (.getfield 44, 3) := by decide +kernel
theorem dX1_hasRoomFor_61 : decode cX1_hasRoomFor 61 = .ok (.bipush 8, 2) := by decide +kernel
theorem dX1_hasRoomFor_63 : decode cX1_hasRoomFor 63 = .ok (.if_icmp .ge 7, 3) := by decide +kernel
theorem dX1_hasRoomFor_66 : decode cX1_hasRoomFor 66 = .ok (.iconst 1, 1) := by decide +kernel
theorem dX1_hasRoomFor_67 : decode cX1_hasRoomFor 67 = .ok (.goto 4, 3) := by decide +kernel
theorem dX1_hasRoomFor_70 : decode cX1_hasRoomFor 70 = .ok (.iconst 0, 1) := by decide +kernel
theorem dX1_hasRoomFor_71 : decode cX1_hasRoomFor 71 = .ok (.ireturn, 1) := by decide +kernel
theorem dX1_hasRoomFor_72 : decode cX1_hasRoomFor 72 = .ok (.iconst 1, 1) := by decide +kernel
theorem dX1_hasRoomFor_73 : decode cX1_hasRoomFor 73 = .ok (.ireturn, 1) := by decide +kernel
theorem dX1_comerNumber_0 : decode cX1_comerNumber 0 = .ok (.iload_n 1, 1) := by decide +kernel
theorem dX1_comerNumber_1 : decode cX1_comerNumber 1 = .ok (.ifCond .lt 21, 3) := by decide +kernel
theorem dX1_comerNumber_4 : decode cX1_comerNumber 4 = .ok (.iload_n 1, 1) := by decide +kernel
theorem dX1_comerNumber_5 : decode cX1_comerNumber 5 = .ok (.aload_n 0, 1) := by decide +kernel
theorem dX1_comerNumber_6 : decode cX1_comerNumber 6 = .ok (.getfield 37, 3) := by decide +kernel
theorem dX1_comerNumber_9 : decode cX1_comerNumber 9 = .ok (.if_icmp .ge 13, 3) := by decide +kernel
theorem dX1_comerNumber_12 : decode cX1_comerNumber 12 = .ok (.iload_n 2, 1) := by decide +kernel
theorem dX1_comerNumber_13 : decode cX1_comerNumber 13 = .ok (.ifCond .lt 9, 3) := by decide +kernel
theorem dX1_comerNumber_16 : decode cX1_comerNumber 16 = .ok (.iload_n 2, 1) := by decide +kernel
theorem dX1_comerNumber_17 : decode cX1_comerNumber 17 = .ok (.bipush 6, 2) := by decide +kernel
theorem dX1_comerNumber_19 : decode cX1_comerNumber 19 = .ok (.if_icmp .le 5, 3) := by decide +kernel
theorem dX1_comerNumber_22 : decode cX1_comerNumber 22 = .ok (.iconst 0, 1) := by decide +kernel
theorem dX1_comerNumber_23 : decode cX1_comerNumber 23 = .ok (.ireturn, 1) := by decide +kernel
theorem dX1_comerNumber_24 : decode cX1_comerNumber 24 = .ok (.iload_n 1, 1) := by decide +kernel
theorem dX1_comerNumber_25 : decode cX1_comerNumber 25 = .ok (.bipush 6, 2) := by decide +kernel
theorem dX1_comerNumber_27 : decode cX1_comerNumber 27 = .ok (.imul, 1) := by decide +kernel
theorem dX1_comerNumber_28 : decode cX1_comerNumber 28 = .ok (.istore_n 3, 1) := by decide +kernel
theorem dX1_comerNumber_29 : decode cX1_comerNumber 29 = .ok (.iload_n 2, 1) := by decide +kernel
theorem dX1_comerNumber_30 : decode cX1_comerNumber 30 = .ok (.bipush 6, 2) := by decide +kernel
theorem dX1_comerNumber_32 : decode cX1_comerNumber 32 = .ok (.if_icmp .ne 30, 3) := by decide +kernel
theorem dX1_comerNumber_35 : decode cX1_comerNumber 35 = .ok (.aload_n 0, 1) := by decide +kernel
theorem dX1_comerNumber_36 : decode cX1_comerNumber 36 = .ok (.getfield 15, 3) := by decide +kernel
theorem dX1_comerNumber_39 : decode cX1_comerNumber 39 = .ok (.iload_n 3, 1) := by decide +kernel
theorem dX1_comerNumber_40 : decode cX1_comerNumber 40 = .ok (.iaload, 1) := by decide +kernel
theorem dX1_comerNumber_41 : decode cX1_comerNumber 41 = .ok (.aload_n 0, 1) := by decide +kernel
theorem dX1_comerNumber_42 : decode cX1_comerNumber 42 = .ok (.getfield 15, 3) := by decide +kernel
theorem dX1_comerNumber_45 : decode cX1_comerNumber 45 = .ok (.iload_n 3, 1) := by decide +kernel
theorem dX1_comerNumber_46 : decode cX1_comerNumber 46 = .ok (.iconst 1, 1) := by decide +kernel
theorem dX1_comerNumber_47 : decode cX1_comerNumber 47 = .ok (.iadd, 1) := by decide +kernel
theorem dX1_comerNumber_48 : decode cX1_comerNumber 48 = .ok (.iaload, 1) := by decide +kernel
theorem dX1_comerNumber_49 : decode cX1_comerNumber 49 = .ok (.iadd, 1) := by decide +kernel
theorem dX1_comerNumber_50 : decode cX1_comerNumber 50 = .ok (.aload_n 0, 1) := by decide +kernel
theorem dX1_comerNumber_51 : decode cX1_comerNumber 51 = .ok (.getfield 15, 3) := by decide +kernel
theorem dX1_comerNumber_54 : decode cX1_comerNumber 54 = .ok (.iload_n 3, 1) := by decide +kernel
theorem dX1_comerNumber_55 : decode cX1_comerNumber 55 = .ok (.iconst 2, 1) := by decide +kernel
theorem dX1_comerNumber_56 : decode cX1_comerNumber 56 = .ok (.iadd, 1) := by decide +kernel
theorem dX1_comerNumber_57 : decode cX1_comerNumber 57 = .ok (.iaload, 1) := by decide +kernel
theorem dX1_comerNumber_58 : decode cX1_comerNumber 58 = .ok (.iadd, 1) := by decide +kernel
theorem dX1_comerNumber_59 : decode cX1_comerNumber 59 = .ok (.goto 11, 3) := by decide +kernel
theorem dX1_comerNumber_62 : decode cX1_comerNumber 62 = .ok (.aload_n 0, 1) := by decide +kernel
theorem dX1_comerNumber_63 : decode cX1_comerNumber 63 = .ok (.getfield 15, 3) := by decide +kernel
theorem dX1_comerNumber_66 : decode cX1_comerNumber 66 = .ok (.iload_n 3, 1) := by decide +kernel
theorem dX1_comerNumber_67 : decode cX1_comerNumber 67 = .ok (.iload_n 2, 1) := by decide +kernel
theorem dX1_comerNumber_68 : decode cX1_comerNumber 68 = .ok (.iadd, 1) := by decide +kernel
theorem dX1_comerNumber_69 : decode cX1_comerNumber 69 = .ok (.iaload, 1) := by decide +kernel
theorem dX1_comerNumber_70 : decode cX1_comerNumber 70 = .ok (.ireturn, 1) := by decide +kernel
theorem dX1_putComerNumber_0 : decode cX1_putComerNumber 0 = .ok (.aload_n 0, 1) := by decide +kernel
theorem dX1_putComerNumber_1 : decode cX1_putComerNumber 1 = .ok (.iload_n 1, 1) := by decide +kernel
theorem dX1_putComerNumber_2 : decode cX1_putComerNumber 2 = .ok (.invokevirtual 56, 3) := by decide +kernel
theorem dX1_putComerNumber_5 : decode cX1_putComerNumber 5 = .ok (.ifCond .eq 25, 3) := by decide +kernel
theorem dX1_putComerNumber_8 : decode cX1_putComerNumber 8 = .ok (.iload_n 2, 1) := by decide +kernel
theorem dX1_putComerNumber_9 : decode cX1_putComerNumber 9 = .ok (.ifCond .lt 21, 3) := by decide +kernel
theorem dX1_putComerNumber_12 : decode cX1_putComerNumber 12 = .ok (.iload_n 2, 1) := by decide +kernel
theorem dX1_putComerNumber_13 : decode cX1_putComerNumber 13 = .ok (.bipush 6, 2) := by decide +kernel
theorem dX1_putComerNumber_15 : decode cX1_putComerNumber 15 = .ok (.if_icmp .ge 15, 3) := by decide +kernel
theorem dX1_putComerNumber_18 : decode cX1_putComerNumber 18 = .ok (.aload_n 0, 1) := by decide +kernel
theorem dX1_putComerNumber_19 : decode cX1_putComerNumber 19 = .ok (.getfield 15, 3) := by decide +kernel
theorem dX1_putComerNumber_22 : decode cX1_putComerNumber 22 = .ok (.iload_n 1, 1) := by decide +kernel
theorem dX1_putComerNumber_23 : decode cX1_putComerNumber 23 = .ok (.bipush 6, 2) := by decide +kernel
theorem dX1_putComerNumber_25 : decode cX1_putComerNumber 25 = .ok (.imul, 1) := by decide +kernel
theorem dX1_putComerNumber_26 : decode cX1_putComerNumber 26 = .ok (.iload_n 2, 1) := by decide +kernel
theorem dX1_putComerNumber_27 : decode cX1_putComerNumber 27 = .ok (.iadd, 1) := by decide +kernel
theorem dX1_putComerNumber_28 : decode cX1_putComerNumber 28 = .ok (.iload_n 3, 1) := by decide +kernel
theorem dX1_putComerNumber_29 : decode cX1_putComerNumber 29 = .ok (.iastore, 1) := by decide +kernel
theorem dX1_putComerNumber_30 : decode cX1_putComerNumber 30 = .ok (.return_, 1) := by decide +kernel
theorem dX1_askerNumber_0 : decode cX1_askerNumber 0 = .ok (.iload_n 1, 1) := by decide +kernel
theorem dX1_askerNumber_1 : decode cX1_askerNumber 1 = .ok (.ifCond .lt 20, 3) := by decide +kernel
theorem dX1_askerNumber_4 : decode cX1_askerNumber 4 = .ok (.iload_n 1, 1) := by decide +kernel
theorem dX1_askerNumber_5 : decode cX1_askerNumber 5 = .ok (.aload_n 0, 1) := by decide +kernel
theorem dX1_askerNumber_6 : decode cX1_askerNumber 6 = .ok (.getfield 41, 3) := by decide +kernel
theorem dX1_askerNumber_9 : decode cX1_askerNumber 9 = .ok (.if_icmp .ge 12, 3) := by decide +kernel
theorem dX1_askerNumber_12 : decode cX1_askerNumber 12 = .ok (.iload_n 2, 1) := by decide +kernel
theorem dX1_askerNumber_13 : decode cX1_askerNumber 13 = .ok (.ifCond .lt 8, 3) := by decide +kernel
theorem dX1_askerNumber_16 : decode cX1_askerNumber 16 = .ok (.iload_n 2, 1) := by decide +kernel
theorem dX1_askerNumber_17 : decode cX1_askerNumber 17 = .ok (.iconst 3, 1) := by decide +kernel
theorem dX1_askerNumber_18 : decode cX1_askerNumber 18 = .ok (.if_icmp .lt 5, 3) := by decide +kernel
theorem dX1_askerNumber_21 : decode cX1_askerNumber 21 = .ok (.iconst 0, 1) := by decide +kernel
theorem dX1_askerNumber_22 : decode cX1_askerNumber 22 = .ok (.ireturn, 1) := by decide +kernel
theorem dX1_askerNumber_23 : decode cX1_askerNumber 23 = .ok (.aload_n 0, 1) := by decide +kernel
theorem dX1_askerNumber_24 : decode cX1_askerNumber 24 = .ok (.getfield 19, 3) := by decide +kernel
theorem dX1_askerNumber_27 : decode cX1_askerNumber 27 = .ok (.iload_n 1, 1) := by decide +kernel
theorem dX1_askerNumber_28 : decode cX1_askerNumber 28 = .ok (.iconst 3, 1) := by decide +kernel
theorem dX1_askerNumber_29 : decode cX1_askerNumber 29 = .ok (.imul, 1) := by decide +kernel
theorem dX1_askerNumber_30 : decode cX1_askerNumber 30 = .ok (.iload_n 2, 1) := by decide +kernel
theorem dX1_askerNumber_31 : decode cX1_askerNumber 31 = .ok (.iadd, 1) := by decide +kernel
theorem dX1_askerNumber_32 : decode cX1_askerNumber 32 = .ok (.iaload, 1) := by decide +kernel
theorem dX1_askerNumber_33 : decode cX1_askerNumber 33 = .ok (.ireturn, 1) := by decide +kernel
theorem dX1_putDrawn_0 : decode cX1_putDrawn 0 = .ok (.aload_n 0, 1) := by decide +kernel
theorem dX1_putDrawn_1 : decode cX1_putDrawn 1 = .ok (.iload_n 1, 1) := by decide +kernel
theorem dX1_putDrawn_2 : decode cX1_putDrawn 2 = .ok (.invokevirtual 60, 3) := by decide +kernel
theorem dX1_putDrawn_5 : decode cX1_putDrawn 5 = .ok (.ifCond .eq 14, 3) := by decide +kernel
theorem dX1_putDrawn_8 : decode cX1_putDrawn 8 = .ok (.aload_n 0, 1) := by decide +kernel
theorem dX1_putDrawn_9 : decode cX1_putDrawn 9 = .ok (.getfield 19, 3) := by decide +kernel
theorem dX1_putDrawn_12 : decode cX1_putDrawn 12 = .ok (.iload_n 1, 1) := by decide +kernel
theorem dX1_putDrawn_13 : decode cX1_putDrawn 13 = .ok (.iconst 3, 1) := by decide +kernel
theorem dX1_putDrawn_14 : decode cX1_putDrawn 14 = .ok (.imul, 1) := by decide +kernel
theorem dX1_putDrawn_15 : decode cX1_putDrawn 15 = .ok (.iconst 2, 1) := by decide +kernel
theorem dX1_putDrawn_16 : decode cX1_putDrawn 16 = .ok (.iadd, 1) := by decide +kernel
theorem dX1_putDrawn_17 : decode cX1_putDrawn 17 = .ok (.iload_n 2, 1) := by decide +kernel
theorem dX1_putDrawn_18 : decode cX1_putDrawn 18 = .ok (.iastore, 1) := by decide +kernel
theorem dX1_putDrawn_19 : decode cX1_putDrawn 19 = .ok (.return_, 1) := by decide +kernel
theorem dX1_addComer_0 : decode cX1_addComer 0 = .ok (.aload_n 0, 1) := by decide +kernel
theorem dX1_addComer_1 : decode cX1_addComer 1 = .ok (.getfield 37, 3) := by decide +kernel
theorem dX1_addComer_4 : decode cX1_addComer 4 = .ok (.bipush 8, 2) := by decide +kernel
theorem dX1_addComer_6 : decode cX1_addComer 6 = .ok (.if_icmp .ge 10, 3) := by decide +kernel
theorem dX1_addComer_9 : decode cX1_addComer 9 = .ok (.aload_n 1, 1) := by decide +kernel
theorem dX1_addComer_10 : decode cX1_addComer 10 = .ok (.arraylength, 1) := by decide +kernel
theorem dX1_addComer_11 : decode cX1_addComer 11 = .ok (.bipush 6, 2) := by decide +kernel
theorem dX1_addComer_13 : decode cX1_addComer 13 = .ok (.if_icmp .ge 5, 3) := by decide +kernel
theorem dX1_addComer_16 : decode cX1_addComer 16 = .ok (.iconst (-1), 1) := by decide +kernel
theorem dX1_addComer_17 : decode cX1_addComer 17 = .ok (.ireturn, 1) := by decide +kernel
theorem dX1_addComer_18 : decode cX1_addComer 18 = .ok (.aload_n 1, 1) := by decide +kernel
theorem dX1_addComer_19 : decode cX1_addComer 19 = .ok (.iconst 0, 1) := by decide +kernel
theorem dX1_addComer_20 : decode cX1_addComer 20 = .ok (.aload_n 0, 1) := by decide +kernel
theorem dX1_addComer_21 : decode cX1_addComer 21 = .ok (.getfield 15, 3) := by decide +kernel
theorem dX1_addComer_24 : decode cX1_addComer 24 = .ok (.aload_n 0, 1) := by decide +kernel
theorem dX1_addComer_25 : decode cX1_addComer 25 = .ok (.getfield 37, 3) := by decide +kernel
theorem dX1_addComer_28 : decode cX1_addComer 28 = .ok (.bipush 6, 2) := by decide +kernel
theorem dX1_addComer_30 : decode cX1_addComer 30 = .ok (.imul, 1) := by decide +kernel
theorem dX1_addComer_31 : decode cX1_addComer 31 = .ok (.bipush 6, 2) := by decide +kernel
theorem dX1_addComer_33 : decode cX1_addComer 33 = .ok (.invokestatic 50, 3) := by decide +kernel
theorem dX1_addComer_36 : decode cX1_addComer 36 = .ok (.aload_n 0, 1) := by decide +kernel
theorem dX1_addComer_37 : decode cX1_addComer 37 = .ok (.dup, 1) := by decide +kernel
theorem dX1_addComer_38 : decode cX1_addComer 38 = .ok (.getfield 37, 3) := by decide +kernel
theorem dX1_addComer_41 : decode cX1_addComer 41 = .ok (.iconst 1, 1) := by decide +kernel
theorem dX1_addComer_42 : decode cX1_addComer 42 = .ok (.iadd, 1) := by decide +kernel
theorem dX1_addComer_43 : decode cX1_addComer 43 = .ok (.putfield 37, 3) := by decide +kernel
theorem dX1_addComer_46 : decode cX1_addComer 46 = .ok (.aload_n 0, 1) := by decide +kernel
theorem dX1_addComer_47 : decode cX1_addComer 47 = .ok (.getfield 37, 3) := by decide +kernel
theorem dX1_addComer_50 : decode cX1_addComer 50 = .ok (.iconst 1, 1) := by decide +kernel
theorem dX1_addComer_51 : decode cX1_addComer 51 = .ok (.isub, 1) := by decide +kernel
theorem dX1_addComer_52 : decode cX1_addComer 52 = .ok (.ireturn, 1) := by decide +kernel
theorem dX1_addAsker_0 : decode cX1_addAsker 0 = .ok (.aload_n 0, 1) := by decide +kernel
theorem dX1_addAsker_1 : decode cX1_addAsker 1 = .ok (.getfield 41, 3) := by decide +kernel
theorem dX1_addAsker_4 : decode cX1_addAsker 4 = .ok (.iconst 4, 1) := by decide +kernel
theorem dX1_addAsker_5 : decode cX1_addAsker 5 = .ok (.if_icmp .lt 5, 3) := by decide +kernel
theorem dX1_addAsker_8 : decode cX1_addAsker 8 = .ok (.iconst (-1), 1) := by decide +kernel
theorem dX1_addAsker_9 : decode cX1_addAsker 9 = .ok (.ireturn, 1) := by decide +kernel
theorem dX1_addAsker_10 : decode cX1_addAsker 10 = .ok (.aload_n 0, 1) := by decide +kernel
theorem dX1_addAsker_11 : decode cX1_addAsker 11 = .ok (.getfield 41, 3) := by decide +kernel
theorem dX1_addAsker_14 : decode cX1_addAsker 14 = .ok (.iconst 3, 1) := by decide +kernel
theorem dX1_addAsker_15 : decode cX1_addAsker 15 = .ok (.imul, 1) := by decide +kernel
theorem dX1_addAsker_16 : decode cX1_addAsker 16 = .ok (.istore 4, 2) := by decide +kernel
theorem dX1_addAsker_18 : decode cX1_addAsker 18 = .ok (.aload_n 0, 1) := by decide +kernel
theorem dX1_addAsker_19 : decode cX1_addAsker 19 = .ok (.getfield 19, 3) := by decide +kernel
theorem dX1_addAsker_22 : decode cX1_addAsker 22 = .ok (.iload 4, 2) := by decide +kernel
theorem dX1_addAsker_24 : decode cX1_addAsker 24 = .ok (.iconst 0, 1) := by decide +kernel
theorem dX1_addAsker_25 : decode cX1_addAsker 25 = .ok (.iadd, 1) := by decide +kernel
theorem dX1_addAsker_26 : decode cX1_addAsker 26 = .ok (.iload_n 1, 1) := by decide +kernel
theorem dX1_addAsker_27 : decode cX1_addAsker 27 = .ok (.iastore, 1) := by decide +kernel
theorem dX1_addAsker_28 : decode cX1_addAsker 28 = .ok (.aload_n 0, 1) := by decide +kernel
theorem dX1_addAsker_29 : decode cX1_addAsker 29 = .ok (.getfield 19, 3) := by decide +kernel
theorem dX1_addAsker_32 : decode cX1_addAsker 32 = .ok (.iload 4, 2) := by decide +kernel
theorem dX1_addAsker_34 : decode cX1_addAsker 34 = .ok (.iconst 1, 1) := by decide +kernel
theorem dX1_addAsker_35 : decode cX1_addAsker 35 = .ok (.iadd, 1) := by decide +kernel
theorem dX1_addAsker_36 : decode cX1_addAsker 36 = .ok (.iload_n 2, 1) := by decide +kernel
theorem dX1_addAsker_37 : decode cX1_addAsker 37 = .ok (.iastore, 1) := by decide +kernel
theorem dX1_addAsker_38 : decode cX1_addAsker 38 = .ok (.aload_n 0, 1) := by decide +kernel
theorem dX1_addAsker_39 : decode cX1_addAsker 39 = .ok (.getfield 19, 3) := by decide +kernel
theorem dX1_addAsker_42 : decode cX1_addAsker 42 = .ok (.iload 4, 2) := by decide +kernel
theorem dX1_addAsker_44 : decode cX1_addAsker 44 = .ok (.iconst 2, 1) := by decide +kernel
theorem dX1_addAsker_45 : decode cX1_addAsker 45 = .ok (.iadd, 1) := by decide +kernel
theorem dX1_addAsker_46 : decode cX1_addAsker 46 = .ok (.iload_n 3, 1) := by decide +kernel
theorem dX1_addAsker_47 : decode cX1_addAsker 47 = .ok (.iastore, 1) := by decide +kernel
theorem dX1_addAsker_48 : decode cX1_addAsker 48 = .ok (.aload_n 0, 1) := by decide +kernel
theorem dX1_addAsker_49 : decode cX1_addAsker 49 = .ok (.getfield 22, 3) := by decide +kernel
theorem dX1_addAsker_52 : decode cX1_addAsker 52 = .ok (.aload_n 0, 1) := by decide +kernel
theorem dX1_addAsker_53 : decode cX1_addAsker 53 = .ok (.getfield 41, 3) := by decide +kernel
theorem dX1_addAsker_56 : decode cX1_addAsker 56 = .ok (.aload_n 0, 1) := by decide +kernel
theorem dX1_addAsker_57 : decode cX1_addAsker 57 = .ok (.getfield 41, 3) := by decide +kernel
theorem dX1_addAsker_60 : decode cX1_addAsker 60 = .ok (.iastore, 1) := by decide +kernel
theorem dX1_addAsker_61 : decode cX1_addAsker 61 = .ok (.aload_n 0, 1) := by decide +kernel
theorem dX1_addAsker_62 : decode cX1_addAsker 62 = .ok (.dup, 1) := by decide +kernel
theorem dX1_addAsker_63 : decode cX1_addAsker 63 = .ok (.getfield 41, 3) := by decide +kernel
theorem dX1_addAsker_66 : decode cX1_addAsker 66 = .ok (.iconst 1, 1) := by decide +kernel
theorem dX1_addAsker_67 : decode cX1_addAsker 67 = .ok (.iadd, 1) := by decide +kernel
theorem dX1_addAsker_68 : decode cX1_addAsker 68 = .ok (.putfield 41, 3) := by decide +kernel
theorem dX1_addAsker_71 : decode cX1_addAsker 71 = .ok (.aload_n 0, 1) := by decide +kernel
theorem dX1_addAsker_72 : decode cX1_addAsker 72 = .ok (.getfield 41, 3) := by decide +kernel
theorem dX1_addAsker_75 : decode cX1_addAsker 75 = .ok (.iconst 1, 1) := by decide +kernel
theorem dX1_addAsker_76 : decode cX1_addAsker 76 = .ok (.isub, 1) := by decide +kernel
theorem dX1_addAsker_77 : decode cX1_addAsker 77 = .ok (.ireturn, 1) := by decide +kernel
theorem dX1_addWay_0 : decode cX1_addWay 0 = .ok (.aload_n 0, 1) := by decide +kernel
theorem dX1_addWay_1 : decode cX1_addWay 1 = .ok (.getfield 44, 3) := by decide +kernel
theorem dX1_addWay_4 : decode cX1_addWay 4 = .ok (.istore_n 3, 1) := by decide +kernel
theorem dX1_addWay_5 : decode cX1_addWay 5 = .ok (.iload_n 3, 1) := by decide +kernel
theorem dX1_addWay_6 : decode cX1_addWay 6 = .ok (.bipush 8, 2) := by decide +kernel
theorem dX1_addWay_8 : decode cX1_addWay 8 = .ok (.if_icmp .lt 5, 3) := by decide +kernel
theorem dX1_addWay_11 : decode cX1_addWay 11 = .ok (.iconst (-1), 1) := by decide +kernel
theorem dX1_addWay_12 : decode cX1_addWay 12 = .ok (.ireturn, 1) := by decide +kernel
theorem dX1_addWay_13 : decode cX1_addWay 13 = .ok (.iload_n 1, 1) := by decide +kernel
theorem dX1_addWay_14 : decode cX1_addWay 14 = .ok (.tableswitch 176 1 6 #[38, 61, 84, 107, 130, 153], 38) := by decide +kernel
theorem dX1_addWay_52 : decode cX1_addWay 52 = .ok (.aload_n 0, 1) := by decide +kernel
theorem dX1_addWay_53 : decode cX1_addWay 53 = .ok (.getfield 27, 3) := by decide +kernel
theorem dX1_addWay_56 : decode cX1_addWay 56 = .ok (.iload_n 3, 1) := by decide +kernel
theorem dX1_addWay_57 : decode cX1_addWay 57 = .ok (.new 63, 3) := by decide +kernel
theorem dX1_addWay_60 : decode cX1_addWay 60 = .ok (.dup, 1) := by decide +kernel
theorem dX1_addWay_61 : decode cX1_addWay 61 = .ok (.iload_n 1, 1) := by decide +kernel
theorem dX1_addWay_62 : decode cX1_addWay 62 = .ok (.iload_n 3, 1) := by decide +kernel
theorem dX1_addWay_63 : decode cX1_addWay 63 = .ok (.iload_n 2, 1) := by decide +kernel
theorem dX1_addWay_64 : decode cX1_addWay 64 = .ok (.aload_n 0, 1) := by decide +kernel
theorem dX1_addWay_65 : decode cX1_addWay 65 = .ok (.getfield 9, 3) := by decide +kernel
theorem dX1_addWay_68 : decode cX1_addWay 68 = .ok (.invokespecial 65, 3) := by decide +kernel
theorem dX1_addWay_71 : decode cX1_addWay 71 = .ok (.aastore, 1) := by decide +kernel
theorem dX1_addWay_72 : decode cX1_addWay 72 = .ok (.goto 138, 3) := by decide +kernel
theorem dX1_addWay_75 : decode cX1_addWay 75 = .ok (.aload_n 0, 1) := by decide +kernel
theorem dX1_addWay_76 : decode cX1_addWay 76 = .ok (.getfield 27, 3) := by decide +kernel
theorem dX1_addWay_79 : decode cX1_addWay 79 = .ok (.iload_n 3, 1) := by decide +kernel
theorem dX1_addWay_80 : decode cX1_addWay 80 = .ok (.new 68, 3) := by decide +kernel
theorem dX1_addWay_83 : decode cX1_addWay 83 = .ok (.dup, 1) := by decide +kernel
theorem dX1_addWay_84 : decode cX1_addWay 84 = .ok (.iload_n 1, 1) := by decide +kernel
theorem dX1_addWay_85 : decode cX1_addWay 85 = .ok (.iload_n 3, 1) := by decide +kernel
theorem dX1_addWay_86 : decode cX1_addWay 86 = .ok (.iload_n 2, 1) := by decide +kernel
theorem dX1_addWay_87 : decode cX1_addWay 87 = .ok (.aload_n 0, 1) := by decide +kernel
theorem dX1_addWay_88 : decode cX1_addWay 88 = .ok (.getfield 9, 3) := by decide +kernel
theorem dX1_addWay_91 : decode cX1_addWay 91 = .ok (.invokespecial 70, 3) := by decide +kernel
theorem dX1_addWay_94 : decode cX1_addWay 94 = .ok (.aastore, 1) := by decide +kernel
theorem dX1_addWay_95 : decode cX1_addWay 95 = .ok (.goto 115, 3) := by decide +kernel
theorem dX1_addWay_98 : decode cX1_addWay 98 = .ok (.aload_n 0, 1) := by decide +kernel
theorem dX1_addWay_99 : decode cX1_addWay 99 = .ok (.getfield 27, 3) := by decide +kernel
theorem dX1_addWay_102 : decode cX1_addWay 102 = .ok (.iload_n 3, 1) := by decide +kernel
theorem dX1_addWay_103 : decode cX1_addWay 103 = .ok (.new 71, 3) := by decide +kernel
theorem dX1_addWay_106 : decode cX1_addWay 106 = .ok (.dup, 1) := by decide +kernel
theorem dX1_addWay_107 : decode cX1_addWay 107 = .ok (.iload_n 1, 1) := by decide +kernel
theorem dX1_addWay_108 : decode cX1_addWay 108 = .ok (.iload_n 3, 1) := by decide +kernel
theorem dX1_addWay_109 : decode cX1_addWay 109 = .ok (.iload_n 2, 1) := by decide +kernel
theorem dX1_addWay_110 : decode cX1_addWay 110 = .ok (.aload_n 0, 1) := by decide +kernel
theorem dX1_addWay_111 : decode cX1_addWay 111 = .ok (.getfield 9, 3) := by decide +kernel
theorem dX1_addWay_114 : decode cX1_addWay 114 = .ok (.invokespecial 73, 3) := by decide +kernel
theorem dX1_addWay_117 : decode cX1_addWay 117 = .ok (.aastore, 1) := by decide +kernel
theorem dX1_addWay_118 : decode cX1_addWay 118 = .ok (.goto 92, 3) := by decide +kernel
theorem dX1_addWay_121 : decode cX1_addWay 121 = .ok (.aload_n 0, 1) := by decide +kernel
theorem dX1_addWay_122 : decode cX1_addWay 122 = .ok (.getfield 27, 3) := by decide +kernel
theorem dX1_addWay_125 : decode cX1_addWay 125 = .ok (.iload_n 3, 1) := by decide +kernel
theorem dX1_addWay_126 : decode cX1_addWay 126 = .ok (.new 74, 3) := by decide +kernel
theorem dX1_addWay_129 : decode cX1_addWay 129 = .ok (.dup, 1) := by decide +kernel
theorem dX1_addWay_130 : decode cX1_addWay 130 = .ok (.iload_n 1, 1) := by decide +kernel
theorem dX1_addWay_131 : decode cX1_addWay 131 = .ok (.iload_n 3, 1) := by decide +kernel
theorem dX1_addWay_132 : decode cX1_addWay 132 = .ok (.iload_n 2, 1) := by decide +kernel
theorem dX1_addWay_133 : decode cX1_addWay 133 = .ok (.aload_n 0, 1) := by decide +kernel
theorem dX1_addWay_134 : decode cX1_addWay 134 = .ok (.getfield 9, 3) := by decide +kernel
theorem dX1_addWay_137 : decode cX1_addWay 137 = .ok (.invokespecial 76, 3) := by decide +kernel
theorem dX1_addWay_140 : decode cX1_addWay 140 = .ok (.aastore, 1) := by decide +kernel
theorem dX1_addWay_141 : decode cX1_addWay 141 = .ok (.goto 69, 3) := by decide +kernel
theorem dX1_addWay_144 : decode cX1_addWay 144 = .ok (.aload_n 0, 1) := by decide +kernel
theorem dX1_addWay_145 : decode cX1_addWay 145 = .ok (.getfield 27, 3) := by decide +kernel
theorem dX1_addWay_148 : decode cX1_addWay 148 = .ok (.iload_n 3, 1) := by decide +kernel
theorem dX1_addWay_149 : decode cX1_addWay 149 = .ok (.new 77, 3) := by decide +kernel
theorem dX1_addWay_152 : decode cX1_addWay 152 = .ok (.dup, 1) := by decide +kernel
theorem dX1_addWay_153 : decode cX1_addWay 153 = .ok (.iload_n 1, 1) := by decide +kernel
theorem dX1_addWay_154 : decode cX1_addWay 154 = .ok (.iload_n 3, 1) := by decide +kernel
theorem dX1_addWay_155 : decode cX1_addWay 155 = .ok (.iload_n 2, 1) := by decide +kernel
theorem dX1_addWay_156 : decode cX1_addWay 156 = .ok (.aload_n 0, 1) := by decide +kernel
theorem dX1_addWay_157 : decode cX1_addWay 157 = .ok (.getfield 9, 3) := by decide +kernel
theorem dX1_addWay_160 : decode cX1_addWay 160 = .ok (.invokespecial 79, 3) := by decide +kernel
theorem dX1_addWay_163 : decode cX1_addWay 163 = .ok (.aastore, 1) := by decide +kernel
theorem dX1_addWay_164 : decode cX1_addWay 164 = .ok (.goto 46, 3) := by decide +kernel
theorem dX1_addWay_167 : decode cX1_addWay 167 = .ok (.aload_n 0, 1) := by decide +kernel
theorem dX1_addWay_168 : decode cX1_addWay 168 = .ok (.getfield 27, 3) := by decide +kernel
theorem dX1_addWay_171 : decode cX1_addWay 171 = .ok (.iload_n 3, 1) := by decide +kernel
theorem dX1_addWay_172 : decode cX1_addWay 172 = .ok (.new 80, 3) := by decide +kernel
theorem dX1_addWay_175 : decode cX1_addWay 175 = .ok (.dup, 1) := by decide +kernel
theorem dX1_addWay_176 : decode cX1_addWay 176 = .ok (.iload_n 1, 1) := by decide +kernel
theorem dX1_addWay_177 : decode cX1_addWay 177 = .ok (.iload_n 3, 1) := by decide +kernel
theorem dX1_addWay_178 : decode cX1_addWay 178 = .ok (.iload_n 2, 1) := by decide +kernel
theorem dX1_addWay_179 : decode cX1_addWay 179 = .ok (.aload_n 0, 1) := by decide +kernel
theorem dX1_addWay_180 : decode cX1_addWay 180 = .ok (.getfield 9, 3) := by decide +kernel
theorem dX1_addWay_183 : decode cX1_addWay 183 = .ok (.invokespecial 82, 3) := by decide +kernel
theorem dX1_addWay_186 : decode cX1_addWay 186 = .ok (.aastore, 1) := by decide +kernel
theorem dX1_addWay_187 : decode cX1_addWay 187 = .ok (.goto 23, 3) := by decide +kernel
theorem dX1_addWay_190 : decode cX1_addWay 190 = .ok (.aload_n 0, 1) := by decide +kernel
theorem dX1_addWay_191 : decode cX1_addWay 191 = .ok (.getfield 27, 3) := by decide +kernel
theorem dX1_addWay_194 : decode cX1_addWay 194 = .ok (.iload_n 3, 1) := by decide +kernel
theorem dX1_addWay_195 : decode cX1_addWay 195 = .ok (.new 25, 3) := by decide +kernel
theorem dX1_addWay_198 : decode cX1_addWay 198 = .ok (.dup, 1) := by decide +kernel
theorem dX1_addWay_199 : decode cX1_addWay 199 = .ok (.iload_n 1, 1) := by decide +kernel
theorem dX1_addWay_200 : decode cX1_addWay 200 = .ok (.iload_n 3, 1) := by decide +kernel
theorem dX1_addWay_201 : decode cX1_addWay 201 = .ok (.iload_n 2, 1) := by decide +kernel
theorem dX1_addWay_202 : decode cX1_addWay 202 = .ok (.aload_n 0, 1) := by decide +kernel
theorem dX1_addWay_203 : decode cX1_addWay 203 = .ok (.getfield 9, 3) := by decide +kernel
theorem dX1_addWay_206 : decode cX1_addWay 206 = .ok (.invokespecial 83, 3) := by decide +kernel
theorem dX1_addWay_209 : decode cX1_addWay 209 = .ok (.aastore, 1) := by decide +kernel
theorem dX1_addWay_210 : decode cX1_addWay 210 = .ok (.aload_n 0, 1) := by decide +kernel
theorem dX1_addWay_211 : decode cX1_addWay 211 = .ok (.dup, 1) := by decide +kernel
theorem dX1_addWay_212 : decode cX1_addWay 212 = .ok (.getfield 44, 3) := by decide +kernel
theorem dX1_addWay_215 : decode cX1_addWay 215 = .ok (.iconst 1, 1) := by decide +kernel
theorem dX1_addWay_216 : decode cX1_addWay 216 = .ok (.iadd, 1) := by decide +kernel
theorem dX1_addWay_217 : decode cX1_addWay 217 = .ok (.putfield 44, 3) := by decide +kernel
theorem dX1_addWay_220 : decode cX1_addWay 220 = .ok (.iload_n 3, 1) := by decide +kernel
theorem dX1_addWay_221 : decode cX1_addWay 221 = .ok (.ireturn, 1) := by decide +kernel
theorem dX1_addDrawnComer_0 : decode cX1_addDrawnComer 0 = .ok (.aload_n 0, 1) := by decide +kernel
theorem dX1_addDrawnComer_1 : decode cX1_addDrawnComer 1 = .ok (.getfield 37, 3) := by decide +kernel
theorem dX1_addDrawnComer_4 : decode cX1_addDrawnComer 4 = .ok (.bipush 8, 2) := by decide +kernel
theorem dX1_addDrawnComer_6 : decode cX1_addDrawnComer 6 = .ok (.if_icmp .ge 54, 3) := by decide +kernel
theorem dX1_addDrawnComer_9 : decode cX1_addDrawnComer 9 = .ok (.aload_n 0, 1) := by decide +kernel
theorem dX1_addDrawnComer_10 : decode cX1_addDrawnComer 10 = .ok (.getfield 37, 3) := by decide +kernel
theorem dX1_addDrawnComer_13 : decode cX1_addDrawnComer 13 = .ok (.bipush 6, 2) := by decide +kernel
theorem dX1_addDrawnComer_15 : decode cX1_addDrawnComer 15 = .ok (.imul, 1) := by decide +kernel
theorem dX1_addDrawnComer_16 : decode cX1_addDrawnComer 16 = .ok (.istore_n 1, 1) := by decide +kernel
theorem dX1_addDrawnComer_17 : decode cX1_addDrawnComer 17 = .ok (.iconst 0, 1) := by decide +kernel
theorem dX1_addDrawnComer_18 : decode cX1_addDrawnComer 18 = .ok (.istore_n 2, 1) := by decide +kernel
theorem dX1_addDrawnComer_19 : decode cX1_addDrawnComer 19 = .ok (.iload_n 2, 1) := by decide +kernel
theorem dX1_addDrawnComer_20 : decode cX1_addDrawnComer 20 = .ok (.bipush 6, 2) := by decide +kernel
theorem dX1_addDrawnComer_22 : decode cX1_addDrawnComer 22 = .ok (.if_icmp .ge 28, 3) := by decide +kernel
theorem dX1_addDrawnComer_25 : decode cX1_addDrawnComer 25 = .ok (.aload_n 0, 1) := by decide +kernel
theorem dX1_addDrawnComer_26 : decode cX1_addDrawnComer 26 = .ok (.getfield 15, 3) := by decide +kernel
theorem dX1_addDrawnComer_29 : decode cX1_addDrawnComer 29 = .ok (.iload_n 1, 1) := by decide +kernel
theorem dX1_addDrawnComer_30 : decode cX1_addDrawnComer 30 = .ok (.iload_n 2, 1) := by decide +kernel
theorem dX1_addDrawnComer_31 : decode cX1_addDrawnComer 31 = .ok (.iadd, 1) := by decide +kernel
theorem dX1_addDrawnComer_32 : decode cX1_addDrawnComer 32 = .ok (.aload_n 0, 1) := by decide +kernel
theorem dX1_addDrawnComer_33 : decode cX1_addDrawnComer 33 = .ok (.getstatic 84, 3) := by decide +kernel
theorem dX1_addDrawnComer_36 : decode cX1_addDrawnComer 36 = .ok (.iload_n 2, 1) := by decide +kernel
theorem dX1_addDrawnComer_37 : decode cX1_addDrawnComer 37 = .ok (.iaload, 1) := by decide +kernel
theorem dX1_addDrawnComer_38 : decode cX1_addDrawnComer 38 = .ok (.iconst 1, 1) := by decide +kernel
theorem dX1_addDrawnComer_39 : decode cX1_addDrawnComer 39 = .ok (.iadd, 1) := by decide +kernel
theorem dX1_addDrawnComer_40 : decode cX1_addDrawnComer 40 = .ok (.invokevirtual 87, 3) := by decide +kernel
theorem dX1_addDrawnComer_43 : decode cX1_addDrawnComer 43 = .ok (.iastore, 1) := by decide +kernel
theorem dX1_addDrawnComer_44 : decode cX1_addDrawnComer 44 = .ok (.iinc 2 1, 3) := by decide +kernel
theorem dX1_addDrawnComer_47 : decode cX1_addDrawnComer 47 = .ok (.goto (-28), 3) := by decide +kernel
theorem dX1_addDrawnComer_50 : decode cX1_addDrawnComer 50 = .ok (.aload_n 0, 1) := by decide +kernel
theorem dX1_addDrawnComer_51 : decode cX1_addDrawnComer 51 = .ok (.dup, 1) := by decide +kernel
theorem dX1_addDrawnComer_52 : decode cX1_addDrawnComer 52 = .ok (.getfield 37, 3) := by decide +kernel
theorem dX1_addDrawnComer_55 : decode cX1_addDrawnComer 55 = .ok (.iconst 1, 1) := by decide +kernel
theorem dX1_addDrawnComer_56 : decode cX1_addDrawnComer 56 = .ok (.iadd, 1) := by decide +kernel
theorem dX1_addDrawnComer_57 : decode cX1_addDrawnComer 57 = .ok (.putfield 37, 3) := by decide +kernel
theorem dX1_addDrawnComer_60 : decode cX1_addDrawnComer 60 = .ok (.return_, 1) := by decide +kernel
theorem dX1_draw_0 : decode cX1_draw 0 = .ok (.aload_n 0, 1) := by decide +kernel
theorem dX1_draw_1 : decode cX1_draw 1 = .ok (.aload_n 0, 1) := by decide +kernel
theorem dX1_draw_2 : decode cX1_draw 2 = .ok (.getfield 47, 3) := by decide +kernel
theorem dX1_draw_5 : decode cX1_draw 5 = .ok (.ldc 91, 2) := by decide +kernel
theorem dX1_draw_7 : decode cX1_draw 7 = .ok (.imul, 1) := by decide +kernel
theorem dX1_draw_8 : decode cX1_draw 8 = .ok (.sipush 12345, 3) := by decide +kernel
theorem dX1_draw_11 : decode cX1_draw 11 = .ok (.iadd, 1) := by decide +kernel
theorem dX1_draw_12 : decode cX1_draw 12 = .ok (.putfield 47, 3) := by decide +kernel
theorem dX1_draw_15 : decode cX1_draw 15 = .ok (.iload_n 1, 1) := by decide +kernel
theorem dX1_draw_16 : decode cX1_draw 16 = .ok (.ifCond .le 15, 3) := by decide +kernel
theorem dX1_draw_19 : decode cX1_draw 19 = .ok (.aload_n 0, 1) := by decide +kernel
theorem dX1_draw_20 : decode cX1_draw 20 = .ok (.getfield 47, 3) := by decide +kernel
theorem dX1_draw_23 : decode cX1_draw 23 = .ok (.bipush 16, 2) := by decide +kernel
theorem dX1_draw_25 : decode cX1_draw 25 = .ok (.iushr, 1) := by decide +kernel
theorem dX1_draw_26 : decode cX1_draw 26 = .ok (.iload_n 1, 1) := by decide +kernel
theorem dX1_draw_27 : decode cX1_draw 27 = .ok (.irem, 1) := by decide +kernel
theorem dX1_draw_28 : decode cX1_draw 28 = .ok (.goto 4, 3) := by decide +kernel
theorem dX1_draw_31 : decode cX1_draw 31 = .ok (.iconst 0, 1) := by decide +kernel
theorem dX1_draw_32 : decode cX1_draw 32 = .ok (.ireturn, 1) := by decide +kernel
theorem dX1_letComersGo_0 : decode cX1_letComersGo 0 = .ok (.aload_n 0, 1) := by decide +kernel
theorem dX1_letComersGo_1 : decode cX1_letComersGo 1 = .ok (.getfield 37, 3) := by decide +kernel
theorem dX1_letComersGo_4 : decode cX1_letComersGo 4 = .ok (.istore_n 1, 1) := by decide +kernel
theorem dX1_letComersGo_5 : decode cX1_letComersGo 5 = .ok (.aload_n 0, 1) := by decide +kernel
theorem dX1_letComersGo_6 : decode cX1_letComersGo 6 = .ok (.iconst 0, 1) := by decide +kernel
theorem dX1_letComersGo_7 : decode cX1_letComersGo 7 = .ok (.putfield 37, 3) := by decide +kernel
theorem dX1_letComersGo_10 : decode cX1_letComersGo 10 = .ok (.iload_n 1, 1) := by decide +kernel
theorem dX1_letComersGo_11 : decode cX1_letComersGo 11 = .ok (.ireturn, 1) := by decide +kernel
theorem dX1_first_0 : decode cX1_first 0 = .ok (.aload_n 0, 1) := by decide +kernel
theorem dX1_first_1 : decode cX1_first 1 = .ok (.getfield 41, 3) := by decide +kernel
theorem dX1_first_4 : decode cX1_first 4 = .ok (.ifCond .le 12, 3) := by decide +kernel
theorem dX1_first_7 : decode cX1_first 7 = .ok (.aload_n 0, 1) := by decide +kernel
theorem dX1_first_8 : decode cX1_first 8 = .ok (.getfield 22, 3) := by decide +kernel
theorem dX1_first_11 : decode cX1_first 11 = .ok (.iconst 0, 1) := by decide +kernel
theorem dX1_first_12 : decode cX1_first 12 = .ok (.iaload, 1) := by decide +kernel
theorem dX1_first_13 : decode cX1_first 13 = .ok (.goto 4, 3) := by decide +kernel
theorem dX1_first_16 : decode cX1_first 16 = .ok (.iconst (-1), 1) := by decide +kernel
theorem dX1_first_17 : decode cX1_first 17 = .ok (.ireturn, 1) := by decide +kernel
theorem dX1_placeOf_0 : decode cX1_placeOf 0 = .ok (.iconst 0, 1) := by decide +kernel
theorem dX1_placeOf_1 : decode cX1_placeOf 1 = .ok (.istore_n 2, 1) := by decide +kernel
theorem dX1_placeOf_2 : decode cX1_placeOf 2 = .ok (.iload_n 2, 1) := by decide +kernel
theorem dX1_placeOf_3 : decode cX1_placeOf 3 = .ok (.aload_n 0, 1) := by decide +kernel
theorem dX1_placeOf_4 : decode cX1_placeOf 4 = .ok (.getfield 41, 3) := by decide +kernel
theorem dX1_placeOf_7 : decode cX1_placeOf 7 = .ok (.if_icmp .ge 21, 3) := by decide +kernel
theorem dX1_placeOf_10 : decode cX1_placeOf 10 = .ok (.aload_n 0, 1) := by decide +kernel
theorem dX1_placeOf_11 : decode cX1_placeOf 11 = .ok (.getfield 22, 3) := by decide +kernel
theorem dX1_placeOf_14 : decode cX1_placeOf 14 = .ok (.iload_n 2, 1) := by decide +kernel
theorem dX1_placeOf_15 : decode cX1_placeOf 15 = .ok (.iaload, 1) := by decide +kernel
theorem dX1_placeOf_16 : decode cX1_placeOf 16 = .ok (.iload_n 1, 1) := by decide +kernel
theorem dX1_placeOf_17 : decode cX1_placeOf 17 = .ok (.if_icmp .ne 5, 3) := by decide +kernel
theorem dX1_placeOf_20 : decode cX1_placeOf 20 = .ok (.iload_n 2, 1) := by decide +kernel
theorem dX1_placeOf_21 : decode cX1_placeOf 21 = .ok (.ireturn, 1) := by decide +kernel
theorem dX1_placeOf_22 : decode cX1_placeOf 22 = .ok (.iinc 2 1, 3) := by decide +kernel
theorem dX1_placeOf_25 : decode cX1_placeOf 25 = .ok (.goto (-23), 3) := by decide +kernel
theorem dX1_placeOf_28 : decode cX1_placeOf 28 = .ok (.iconst (-1), 1) := by decide +kernel
theorem dX1_placeOf_29 : decode cX1_placeOf 29 = .ok (.ireturn, 1) := by decide +kernel
theorem dX1_putFirst_0 : decode cX1_putFirst 0 = .ok (.aload_n 0, 1) := by decide +kernel
theorem dX1_putFirst_1 : decode cX1_putFirst 1 = .ok (.iload_n 1, 1) := by decide +kernel
theorem dX1_putFirst_2 : decode cX1_putFirst 2 = .ok (.invokevirtual 92, 3) := by decide +kernel
theorem dX1_putFirst_5 : decode cX1_putFirst 5 = .ok (.istore_n 2, 1) := by decide +kernel
theorem dX1_putFirst_6 : decode cX1_putFirst 6 = .ok (.iload_n 2, 1) := by decide +kernel
theorem dX1_putFirst_7 : decode cX1_putFirst 7 = .ok (.iconst (-1), 1) := by decide +kernel
theorem dX1_putFirst_8 : decode cX1_putFirst 8 = .ok (.if_icmp .ne 5, 3) := by decide +kernel
theorem dX1_putFirst_11 : decode cX1_putFirst 11 = .ok (.iconst (-1), 1) := by decide +kernel
theorem dX1_putFirst_12 : decode cX1_putFirst 12 = .ok (.ireturn, 1) := by decide +kernel
theorem dX1_putFirst_13 : decode cX1_putFirst 13 = .ok (.iload_n 2, 1) := by decide +kernel
theorem dX1_putFirst_14 : decode cX1_putFirst 14 = .ok (.istore_n 3, 1) := by decide +kernel
theorem dX1_putFirst_15 : decode cX1_putFirst 15 = .ok (.iload_n 3, 1) := by decide +kernel
theorem dX1_putFirst_16 : decode cX1_putFirst 16 = .ok (.ifCond .le 23, 3) := by decide +kernel
theorem dX1_putFirst_19 : decode cX1_putFirst 19 = .ok (.aload_n 0, 1) := by decide +kernel
theorem dX1_putFirst_20 : decode cX1_putFirst 20 = .ok (.getfield 22, 3) := by decide +kernel
theorem dX1_putFirst_23 : decode cX1_putFirst 23 = .ok (.iload_n 3, 1) := by decide +kernel
theorem dX1_putFirst_24 : decode cX1_putFirst 24 = .ok (.aload_n 0, 1) := by decide +kernel
theorem dX1_putFirst_25 : decode cX1_putFirst 25 = .ok (.getfield 22, 3) := by decide +kernel
theorem dX1_putFirst_28 : decode cX1_putFirst 28 = .ok (.iload_n 3, 1) := by decide +kernel
theorem dX1_putFirst_29 : decode cX1_putFirst 29 = .ok (.iconst 1, 1) := by decide +kernel
theorem dX1_putFirst_30 : decode cX1_putFirst 30 = .ok (.isub, 1) := by decide +kernel
theorem dX1_putFirst_31 : decode cX1_putFirst 31 = .ok (.iaload, 1) := by decide +kernel
theorem dX1_putFirst_32 : decode cX1_putFirst 32 = .ok (.iastore, 1) := by decide +kernel
theorem dX1_putFirst_33 : decode cX1_putFirst 33 = .ok (.iinc 3 (-1), 3) := by decide +kernel
theorem dX1_putFirst_36 : decode cX1_putFirst 36 = .ok (.goto (-21), 3) := by decide +kernel
theorem dX1_putFirst_39 : decode cX1_putFirst 39 = .ok (.aload_n 0, 1) := by decide +kernel
theorem dX1_putFirst_40 : decode cX1_putFirst 40 = .ok (.getfield 22, 3) := by decide +kernel
theorem dX1_putFirst_43 : decode cX1_putFirst 43 = .ok (.iconst 0, 1) := by decide +kernel
theorem dX1_putFirst_44 : decode cX1_putFirst 44 = .ok (.iload_n 1, 1) := by decide +kernel
theorem dX1_putFirst_45 : decode cX1_putFirst 45 = .ok (.iastore, 1) := by decide +kernel
theorem dX1_putFirst_46 : decode cX1_putFirst 46 = .ok (.iload_n 2, 1) := by decide +kernel
theorem dX1_putFirst_47 : decode cX1_putFirst 47 = .ok (.ireturn, 1) := by decide +kernel
theorem dX1_sumOfSums_0 : decode cX1_sumOfSums 0 = .ok (.iconst 0, 1) := by decide +kernel
theorem dX1_sumOfSums_1 : decode cX1_sumOfSums 1 = .ok (.istore_n 1, 1) := by decide +kernel
theorem dX1_sumOfSums_2 : decode cX1_sumOfSums 2 = .ok (.iconst 0, 1) := by decide +kernel
theorem dX1_sumOfSums_3 : decode cX1_sumOfSums 3 = .ok (.istore_n 2, 1) := by decide +kernel
theorem dX1_sumOfSums_4 : decode cX1_sumOfSums 4 = .ok (.iload_n 2, 1) := by decide +kernel
theorem dX1_sumOfSums_5 : decode cX1_sumOfSums 5 = .ok (.aload_n 0, 1) := by decide +kernel
theorem dX1_sumOfSums_6 : decode cX1_sumOfSums 6 = .ok (.getfield 37, 3) := by decide +kernel
theorem dX1_sumOfSums_9 : decode cX1_sumOfSums 9 = .ok (.if_icmp .ge 19, 3) := by decide +kernel
theorem dX1_sumOfSums_12 : decode cX1_sumOfSums 12 = .ok (.iload_n 1, 1) := by decide +kernel
theorem dX1_sumOfSums_13 : decode cX1_sumOfSums 13 = .ok (.aload_n 0, 1) := by decide +kernel
theorem dX1_sumOfSums_14 : decode cX1_sumOfSums 14 = .ok (.iload_n 2, 1) := by decide +kernel
theorem dX1_sumOfSums_15 : decode cX1_sumOfSums 15 = .ok (.bipush 6, 2) := by decide +kernel
theorem dX1_sumOfSums_17 : decode cX1_sumOfSums 17 = .ok (.invokevirtual 95, 3) := by decide +kernel
theorem dX1_sumOfSums_20 : decode cX1_sumOfSums 20 = .ok (.iadd, 1) := by decide +kernel
theorem dX1_sumOfSums_21 : decode cX1_sumOfSums 21 = .ok (.istore_n 1, 1) := by decide +kernel
theorem dX1_sumOfSums_22 : decode cX1_sumOfSums 22 = .ok (.iinc 2 1, 3) := by decide +kernel
theorem dX1_sumOfSums_25 : decode cX1_sumOfSums 25 = .ok (.goto (-21), 3) := by decide +kernel
theorem dX1_sumOfSums_28 : decode cX1_sumOfSums 28 = .ok (.iload_n 1, 1) := by decide +kernel
theorem dX1_sumOfSums_29 : decode cX1_sumOfSums 29 = .ok (.ireturn, 1) := by decide +kernel
theorem dX1_sumsBelow_0 : decode cX1_sumsBelow 0 = .ok (.iconst 0, 1) := by decide +kernel
theorem dX1_sumsBelow_1 : decode cX1_sumsBelow 1 = .ok (.istore_n 2, 1) := by decide +kernel
theorem dX1_sumsBelow_2 : decode cX1_sumsBelow 2 = .ok (.iconst 0, 1) := by decide +kernel
theorem dX1_sumsBelow_3 : decode cX1_sumsBelow 3 = .ok (.istore_n 3, 1) := by decide +kernel
theorem dX1_sumsBelow_4 : decode cX1_sumsBelow 4 = .ok (.iload_n 3, 1) := by decide +kernel
theorem dX1_sumsBelow_5 : decode cX1_sumsBelow 5 = .ok (.aload_n 0, 1) := by decide +kernel
theorem dX1_sumsBelow_6 : decode cX1_sumsBelow 6 = .ok (.getfield 37, 3) := by decide +kernel
theorem dX1_sumsBelow_9 : decode cX1_sumsBelow 9 = .ok (.if_icmp .ge 28, 3) := by decide +kernel
theorem dX1_sumsBelow_12 : decode cX1_sumsBelow 12 = .ok (.iload_n 2, 1) := by decide +kernel
theorem dX1_sumsBelow_13 : decode cX1_sumsBelow 13 = .ok (.aload_n 0, 1) := by decide +kernel
theorem dX1_sumsBelow_14 : decode cX1_sumsBelow 14 = .ok (.iload_n 3, 1) := by decide +kernel
theorem dX1_sumsBelow_15 : decode cX1_sumsBelow 15 = .ok (.bipush 6, 2) := by decide +kernel
theorem dX1_sumsBelow_17 : decode cX1_sumsBelow 17 = .ok (.invokevirtual 95, 3) := by decide +kernel
theorem dX1_sumsBelow_20 : decode cX1_sumsBelow 20 = .ok (.iload_n 1, 1) := by decide +kernel
theorem dX1_sumsBelow_21 : decode cX1_sumsBelow 21 = .ok (.if_icmp .ge 7, 3) := by decide +kernel
theorem dX1_sumsBelow_24 : decode cX1_sumsBelow 24 = .ok (.iconst 1, 1) := by decide +kernel
theorem dX1_sumsBelow_25 : decode cX1_sumsBelow 25 = .ok (.goto 4, 3) := by decide +kernel
theorem dX1_sumsBelow_28 : decode cX1_sumsBelow 28 = .ok (.iconst 0, 1) := by decide +kernel
theorem dX1_sumsBelow_29 : decode cX1_sumsBelow 29 = .ok (.iadd, 1) := by decide +kernel
theorem dX1_sumsBelow_30 : decode cX1_sumsBelow 30 = .ok (.istore_n 2, 1) := by decide +kernel
theorem dX1_sumsBelow_31 : decode cX1_sumsBelow 31 = .ok (.iinc 3 1, 3) := by decide +kernel
theorem dX1_sumsBelow_34 : decode cX1_sumsBelow 34 = .ok (.goto (-30), 3) := by decide +kernel
theorem dX1_sumsBelow_37 : decode cX1_sumsBelow 37 = .ok (.iload_n 2, 1) := by decide +kernel
theorem dX1_sumsBelow_38 : decode cX1_sumsBelow 38 = .ok (.ireturn, 1) := by decide +kernel
theorem dX1_bonus_0 : decode cX1_bonus 0 = .ok (.iload_n 1, 1) := by decide +kernel
theorem dX1_bonus_1 : decode cX1_bonus 1 = .ok (.ifCond .lt 23, 3) := by decide +kernel
theorem dX1_bonus_4 : decode cX1_bonus 4 = .ok (.iload_n 1, 1) := by decide +kernel
theorem dX1_bonus_5 : decode cX1_bonus 5 = .ok (.aload_n 0, 1) := by decide +kernel
theorem dX1_bonus_6 : decode cX1_bonus 6 = .ok (.getfield 41, 3) := by decide +kernel
theorem dX1_bonus_9 : decode cX1_bonus 9 = .ok (.if_icmp .ge 15, 3) := by decide +kernel
theorem dX1_bonus_12 : decode cX1_bonus 12 = .ok (.iload_n 2, 1) := by decide +kernel
theorem dX1_bonus_13 : decode cX1_bonus 13 = .ok (.ifCond .lt 11, 3) := by decide +kernel
theorem dX1_bonus_16 : decode cX1_bonus 16 = .ok (.iload_n 2, 1) := by decide +kernel
theorem dX1_bonus_17 : decode cX1_bonus 17 = .ok (.aload_n 0, 1) := by decide +kernel
theorem dX1_bonus_18 : decode cX1_bonus 18 = .ok (.getfield 37, 3) := by decide +kernel
theorem dX1_bonus_21 : decode cX1_bonus 21 = .ok (.if_icmp .lt 5, 3) := by decide +kernel
theorem dX1_bonus_24 : decode cX1_bonus 24 = .ok (.iconst 0, 1) := by decide +kernel
theorem dX1_bonus_25 : decode cX1_bonus 25 = .ok (.ireturn, 1) := by decide +kernel
theorem dX1_bonus_26 : decode cX1_bonus 26 = .ok (.iload_n 1, 1) := by decide +kernel
theorem dX1_bonus_27 : decode cX1_bonus 27 = .ok (.iconst 3, 1) := by decide +kernel
theorem dX1_bonus_28 : decode cX1_bonus 28 = .ok (.imul, 1) := by decide +kernel
theorem dX1_bonus_29 : decode cX1_bonus 29 = .ok (.istore_n 3, 1) := by decide +kernel
theorem dX1_bonus_30 : decode cX1_bonus 30 = .ok (.aload_n 0, 1) := by decide +kernel
theorem dX1_bonus_31 : decode cX1_bonus 31 = .ok (.getfield 19, 3) := by decide +kernel
theorem dX1_bonus_34 : decode cX1_bonus 34 = .ok (.iload_n 3, 1) := by decide +kernel
theorem dX1_bonus_35 : decode cX1_bonus 35 = .ok (.iconst 0, 1) := by decide +kernel
theorem dX1_bonus_36 : decode cX1_bonus 36 = .ok (.iadd, 1) := by decide +kernel
theorem dX1_bonus_37 : decode cX1_bonus 37 = .ok (.iaload, 1) := by decide +kernel
theorem dX1_bonus_38 : decode cX1_bonus 38 = .ok (.aload_n 0, 1) := by decide +kernel
theorem dX1_bonus_39 : decode cX1_bonus 39 = .ok (.getfield 15, 3) := by decide +kernel
theorem dX1_bonus_42 : decode cX1_bonus 42 = .ok (.iload_n 2, 1) := by decide +kernel
theorem dX1_bonus_43 : decode cX1_bonus 43 = .ok (.bipush 6, 2) := by decide +kernel
theorem dX1_bonus_45 : decode cX1_bonus 45 = .ok (.imul, 1) := by decide +kernel
theorem dX1_bonus_46 : decode cX1_bonus 46 = .ok (.iconst 4, 1) := by decide +kernel
theorem dX1_bonus_47 : decode cX1_bonus 47 = .ok (.iadd, 1) := by decide +kernel
theorem dX1_bonus_48 : decode cX1_bonus 48 = .ok (.iaload, 1) := by decide +kernel
theorem dX1_bonus_49 : decode cX1_bonus 49 = .ok (.if_icmp .ne 7, 3) := by decide +kernel
theorem dX1_bonus_52 : decode cX1_bonus 52 = .ok (.iconst 1, 1) := by decide +kernel
theorem dX1_bonus_53 : decode cX1_bonus 53 = .ok (.goto 4, 3) := by decide +kernel
theorem dX1_bonus_56 : decode cX1_bonus 56 = .ok (.iconst 0, 1) := by decide +kernel
theorem dX1_bonus_57 : decode cX1_bonus 57 = .ok (.istore 4, 2) := by decide +kernel
theorem dX1_bonus_59 : decode cX1_bonus 59 = .ok (.iload 4, 2) := by decide +kernel
theorem dX1_bonus_61 : decode cX1_bonus 61 = .ok (.ifCond .eq 17, 3) := by decide +kernel
theorem dX1_bonus_64 : decode cX1_bonus 64 = .ok (.bipush 10, 2) := by decide +kernel
theorem dX1_bonus_66 : decode cX1_bonus 66 = .ok (.aload_n 0, 1) := by decide +kernel
theorem dX1_bonus_67 : decode cX1_bonus 67 = .ok (.getfield 19, 3) := by decide +kernel
theorem dX1_bonus_70 : decode cX1_bonus 70 = .ok (.iload_n 3, 1) := by decide +kernel
theorem dX1_bonus_71 : decode cX1_bonus 71 = .ok (.iconst 1, 1) := by decide +kernel
theorem dX1_bonus_72 : decode cX1_bonus 72 = .ok (.iadd, 1) := by decide +kernel
theorem dX1_bonus_73 : decode cX1_bonus 73 = .ok (.iaload, 1) := by decide +kernel
theorem dX1_bonus_74 : decode cX1_bonus 74 = .ok (.imul, 1) := by decide +kernel
theorem dX1_bonus_75 : decode cX1_bonus 75 = .ok (.goto 4, 3) := by decide +kernel
theorem dX1_bonus_78 : decode cX1_bonus 78 = .ok (.iconst 0, 1) := by decide +kernel
theorem dX1_bonus_79 : decode cX1_bonus 79 = .ok (.ireturn, 1) := by decide +kernel
theorem dX1_saidByFirst_0 : decode cX1_saidByFirst 0 = .ok (.iconst 0, 1) := by decide +kernel
theorem dX1_saidByFirst_1 : decode cX1_saidByFirst 1 = .ok (.istore 5, 2) := by decide +kernel
theorem dX1_saidByFirst_3 : decode cX1_saidByFirst 3 = .ok (.iconst 0, 1) := by decide +kernel
theorem dX1_saidByFirst_4 : decode cX1_saidByFirst 4 = .ok (.istore 6, 2) := by decide +kernel
theorem dX1_saidByFirst_6 : decode cX1_saidByFirst 6 = .ok (.iconst 0, 1) := by decide +kernel
theorem dX1_saidByFirst_7 : decode cX1_saidByFirst 7 = .ok (.istore 7, 2) := by decide +kernel
theorem dX1_saidByFirst_9 : decode cX1_saidByFirst 9 = .ok (.iload 7, 2) := by decide +kernel
theorem dX1_saidByFirst_11 : decode cX1_saidByFirst 11 = .ok (.iload_n 1, 1) := by decide +kernel
theorem dX1_saidByFirst_12 : decode cX1_saidByFirst 12 = .ok (.if_icmp .ge 82, 3) := by decide +kernel
theorem dX1_saidByFirst_15 : decode cX1_saidByFirst 15 = .ok (.iload 7, 2) := by decide +kernel
theorem dX1_saidByFirst_17 : decode cX1_saidByFirst 17 = .ok (.aload_n 0, 1) := by decide +kernel
theorem dX1_saidByFirst_18 : decode cX1_saidByFirst 18 = .ok (.getfield 41, 3) := by decide +kernel
theorem dX1_saidByFirst_21 : decode cX1_saidByFirst 21 = .ok (.if_icmp .ge 73, 3) := by decide +kernel
theorem dX1_saidByFirst_24 : decode cX1_saidByFirst 24 = .ok (.aload_n 0, 1) := by decide +kernel
theorem dX1_saidByFirst_25 : decode cX1_saidByFirst 25 = .ok (.getfield 22, 3) := by decide +kernel
theorem dX1_saidByFirst_28 : decode cX1_saidByFirst 28 = .ok (.iload 7, 2) := by decide +kernel
theorem dX1_saidByFirst_30 : decode cX1_saidByFirst 30 = .ok (.iaload, 1) := by decide +kernel
theorem dX1_saidByFirst_31 : decode cX1_saidByFirst 31 = .ok (.istore 8, 2) := by decide +kernel
theorem dX1_saidByFirst_33 : decode cX1_saidByFirst 33 = .ok (.iload_n 3, 1) := by decide +kernel
theorem dX1_saidByFirst_34 : decode cX1_saidByFirst 34 = .ok (.ifCond .ne 8, 3) := by decide +kernel
theorem dX1_saidByFirst_37 : decode cX1_saidByFirst 37 = .ok (.iload 7, 2) := by decide +kernel
theorem dX1_saidByFirst_39 : decode cX1_saidByFirst 39 = .ok (.ifCond .ne 7, 3) := by decide +kernel
theorem dX1_saidByFirst_42 : decode cX1_saidByFirst 42 = .ok (.iconst 0, 1) := by decide +kernel
theorem dX1_saidByFirst_43 : decode cX1_saidByFirst 43 = .ok (.goto 10, 3) := by decide +kernel
theorem dX1_saidByFirst_46 : decode cX1_saidByFirst 46 = .ok (.aload_n 0, 1) := by decide +kernel
theorem dX1_saidByFirst_47 : decode cX1_saidByFirst 47 = .ok (.iload 8, 2) := by decide +kernel
theorem dX1_saidByFirst_49 : decode cX1_saidByFirst 49 = .ok (.iconst 2, 1) := by decide +kernel
theorem dX1_saidByFirst_50 : decode cX1_saidByFirst 50 = .ok (.invokevirtual 99, 3) := by decide +kernel
theorem dX1_saidByFirst_53 : decode cX1_saidByFirst 53 = .ok (.istore 9, 2) := by decide +kernel
theorem dX1_saidByFirst_55 : decode cX1_saidByFirst 55 = .ok (.bipush 10, 2) := by decide +kernel
theorem dX1_saidByFirst_57 : decode cX1_saidByFirst 57 = .ok (.iload 9, 2) := by decide +kernel
theorem dX1_saidByFirst_59 : decode cX1_saidByFirst 59 = .ok (.isub, 1) := by decide +kernel
theorem dX1_saidByFirst_60 : decode cX1_saidByFirst 60 = .ok (.aload_n 2, 1) := by decide +kernel
theorem dX1_saidByFirst_61 : decode cX1_saidByFirst 61 = .ok (.aload_n 0, 1) := by decide +kernel
theorem dX1_saidByFirst_62 : decode cX1_saidByFirst 62 = .ok (.iload 8, 2) := by decide +kernel
theorem dX1_saidByFirst_64 : decode cX1_saidByFirst 64 = .ok (.iload 4, 2) := by decide +kernel
theorem dX1_saidByFirst_66 : decode cX1_saidByFirst 66 = .ok (.invokevirtual 102, 3) := by decide +kernel
theorem dX1_saidByFirst_69 : decode cX1_saidByFirst 69 = .ok (.imul, 1) := by decide +kernel
theorem dX1_saidByFirst_70 : decode cX1_saidByFirst 70 = .ok (.iload 9, 2) := by decide +kernel
theorem dX1_saidByFirst_72 : decode cX1_saidByFirst 72 = .ok (.iload 5, 2) := by decide +kernel
theorem dX1_saidByFirst_74 : decode cX1_saidByFirst 74 = .ok (.imul, 1) := by decide +kernel
theorem dX1_saidByFirst_75 : decode cX1_saidByFirst 75 = .ok (.iadd, 1) := by decide +kernel
theorem dX1_saidByFirst_76 : decode cX1_saidByFirst 76 = .ok (.bipush 10, 2) := by decide +kernel
theorem dX1_saidByFirst_78 : decode cX1_saidByFirst 78 = .ok (.idiv, 1) := by decide +kernel
theorem dX1_saidByFirst_79 : decode cX1_saidByFirst 79 = .ok (.istore 5, 2) := by decide +kernel
theorem dX1_saidByFirst_81 : decode cX1_saidByFirst 81 = .ok (.iload 6, 2) := by decide +kernel
theorem dX1_saidByFirst_83 : decode cX1_saidByFirst 83 = .ok (.iload 5, 2) := by decide +kernel
theorem dX1_saidByFirst_85 : decode cX1_saidByFirst 85 = .ok (.iadd, 1) := by decide +kernel
theorem dX1_saidByFirst_86 : decode cX1_saidByFirst 86 = .ok (.istore 6, 2) := by decide +kernel
theorem dX1_saidByFirst_88 : decode cX1_saidByFirst 88 = .ok (.iinc 7 1, 3) := by decide +kernel
theorem dX1_saidByFirst_91 : decode cX1_saidByFirst 91 = .ok (.goto (-82), 3) := by decide +kernel
theorem dX1_saidByFirst_94 : decode cX1_saidByFirst 94 = .ok (.iload 6, 2) := by decide +kernel
theorem dX1_saidByFirst_96 : decode cX1_saidByFirst 96 = .ok (.ireturn, 1) := by decide +kernel
theorem dX1_saidBy_0 : decode cX1_saidBy 0 = .ok (.aload_n 0, 1) := by decide +kernel
theorem dX1_saidBy_1 : decode cX1_saidBy 1 = .ok (.iload_n 3, 1) := by decide +kernel
theorem dX1_saidBy_2 : decode cX1_saidBy 2 = .ok (.invokevirtual 92, 3) := by decide +kernel
theorem dX1_saidBy_5 : decode cX1_saidBy 5 = .ok (.istore 5, 2) := by decide +kernel
theorem dX1_saidBy_7 : decode cX1_saidBy 7 = .ok (.aload_n 0, 1) := by decide +kernel
theorem dX1_saidBy_8 : decode cX1_saidBy 8 = .ok (.iload 5, 2) := by decide +kernel
theorem dX1_saidBy_10 : decode cX1_saidBy 10 = .ok (.iconst 1, 1) := by decide +kernel
theorem dX1_saidBy_11 : decode cX1_saidBy 11 = .ok (.iadd, 1) := by decide +kernel
theorem dX1_saidBy_12 : decode cX1_saidBy 12 = .ok (.aload_n 1, 1) := by decide +kernel
theorem dX1_saidBy_13 : decode cX1_saidBy 13 = .ok (.iload_n 2, 1) := by decide +kernel
theorem dX1_saidBy_14 : decode cX1_saidBy 14 = .ok (.iload 4, 2) := by decide +kernel
theorem dX1_saidBy_16 : decode cX1_saidBy 16 = .ok (.invokevirtual 106, 3) := by decide +kernel
theorem dX1_saidBy_19 : decode cX1_saidBy 19 = .ok (.aload_n 0, 1) := by decide +kernel
theorem dX1_saidBy_20 : decode cX1_saidBy 20 = .ok (.iload 5, 2) := by decide +kernel
theorem dX1_saidBy_22 : decode cX1_saidBy 22 = .ok (.aload_n 1, 1) := by decide +kernel
theorem dX1_saidBy_23 : decode cX1_saidBy 23 = .ok (.iload_n 2, 1) := by decide +kernel
theorem dX1_saidBy_24 : decode cX1_saidBy 24 = .ok (.iload 4, 2) := by decide +kernel
theorem dX1_saidBy_26 : decode cX1_saidBy 26 = .ok (.invokevirtual 106, 3) := by decide +kernel
theorem dX1_saidBy_29 : decode cX1_saidBy 29 = .ok (.isub, 1) := by decide +kernel
theorem dX1_saidBy_30 : decode cX1_saidBy 30 = .ok (.ireturn, 1) := by decide +kernel
theorem dX1_fillTotals_0 : decode cX1_fillTotals 0 = .ok (.iconst 0, 1) := by decide +kernel
theorem dX1_fillTotals_1 : decode cX1_fillTotals 1 = .ok (.istore 4, 2) := by decide +kernel
theorem dX1_fillTotals_3 : decode cX1_fillTotals 3 = .ok (.iload 4, 2) := by decide +kernel
theorem dX1_fillTotals_5 : decode cX1_fillTotals 5 = .ok (.aload_n 0, 1) := by decide +kernel
theorem dX1_fillTotals_6 : decode cX1_fillTotals 6 = .ok (.getfield 37, 3) := by decide +kernel
theorem dX1_fillTotals_9 : decode cX1_fillTotals 9 = .ok (.if_icmp .ge 32, 3) := by decide +kernel
theorem dX1_fillTotals_12 : decode cX1_fillTotals 12 = .ok (.iload 4, 2) := by decide +kernel
theorem dX1_fillTotals_14 : decode cX1_fillTotals 14 = .ok (.aload_n 1, 1) := by decide +kernel
theorem dX1_fillTotals_15 : decode cX1_fillTotals 15 = .ok (.arraylength, 1) := by decide +kernel
theorem dX1_fillTotals_16 : decode cX1_fillTotals 16 = .ok (.if_icmp .ge 25, 3) := by decide +kernel
theorem dX1_fillTotals_19 : decode cX1_fillTotals 19 = .ok (.aload_n 1, 1) := by decide +kernel
theorem dX1_fillTotals_20 : decode cX1_fillTotals 20 = .ok (.iload 4, 2) := by decide +kernel
theorem dX1_fillTotals_22 : decode cX1_fillTotals 22 = .ok (.aload_n 0, 1) := by decide +kernel
theorem dX1_fillTotals_23 : decode cX1_fillTotals 23 = .ok (.aload_n 0, 1) := by decide +kernel
theorem dX1_fillTotals_24 : decode cX1_fillTotals 24 = .ok (.getfield 41, 3) := by decide +kernel
theorem dX1_fillTotals_27 : decode cX1_fillTotals 27 = .ok (.aload_n 2, 1) := by decide +kernel
theorem dX1_fillTotals_28 : decode cX1_fillTotals 28 = .ok (.iload_n 3, 1) := by decide +kernel
theorem dX1_fillTotals_29 : decode cX1_fillTotals 29 = .ok (.iload 4, 2) := by decide +kernel
theorem dX1_fillTotals_31 : decode cX1_fillTotals 31 = .ok (.invokevirtual 106, 3) := by decide +kernel
theorem dX1_fillTotals_34 : decode cX1_fillTotals 34 = .ok (.iastore, 1) := by decide +kernel
theorem dX1_fillTotals_35 : decode cX1_fillTotals 35 = .ok (.iinc 4 1, 3) := by decide +kernel
theorem dX1_fillTotals_38 : decode cX1_fillTotals 38 = .ok (.goto (-35), 3) := by decide +kernel
theorem dX1_fillTotals_41 : decode cX1_fillTotals 41 = .ok (.return_, 1) := by decide +kernel
theorem dX1_fillOwn_0 : decode cX1_fillOwn 0 = .ok (.iconst 0, 1) := by decide +kernel
theorem dX1_fillOwn_1 : decode cX1_fillOwn 1 = .ok (.istore_n 2, 1) := by decide +kernel
theorem dX1_fillOwn_2 : decode cX1_fillOwn 2 = .ok (.iload_n 2, 1) := by decide +kernel
theorem dX1_fillOwn_3 : decode cX1_fillOwn 3 = .ok (.aload_n 0, 1) := by decide +kernel
theorem dX1_fillOwn_4 : decode cX1_fillOwn 4 = .ok (.getfield 37, 3) := by decide +kernel
theorem dX1_fillOwn_7 : decode cX1_fillOwn 7 = .ok (.if_icmp .ge 21, 3) := by decide +kernel
theorem dX1_fillOwn_10 : decode cX1_fillOwn 10 = .ok (.aload_n 0, 1) := by decide +kernel
theorem dX1_fillOwn_11 : decode cX1_fillOwn 11 = .ok (.getfield 31, 3) := by decide +kernel
theorem dX1_fillOwn_14 : decode cX1_fillOwn 14 = .ok (.iload_n 2, 1) := by decide +kernel
theorem dX1_fillOwn_15 : decode cX1_fillOwn 15 = .ok (.aload_n 0, 1) := by decide +kernel
theorem dX1_fillOwn_16 : decode cX1_fillOwn 16 = .ok (.iload_n 2, 1) := by decide +kernel
theorem dX1_fillOwn_17 : decode cX1_fillOwn 17 = .ok (.iload_n 1, 1) := by decide +kernel
theorem dX1_fillOwn_18 : decode cX1_fillOwn 18 = .ok (.invokevirtual 95, 3) := by decide +kernel
theorem dX1_fillOwn_21 : decode cX1_fillOwn 21 = .ok (.iastore, 1) := by decide +kernel
theorem dX1_fillOwn_22 : decode cX1_fillOwn 22 = .ok (.iinc 2 1, 3) := by decide +kernel
theorem dX1_fillOwn_25 : decode cX1_fillOwn 25 = .ok (.goto (-23), 3) := by decide +kernel
theorem dX1_fillOwn_28 : decode cX1_fillOwn 28 = .ok (.return_, 1) := by decide +kernel
theorem dX1_greatest_0 : decode cX1_greatest 0 = .ok (.iconst (-1), 1) := by decide +kernel
theorem dX1_greatest_1 : decode cX1_greatest 1 = .ok (.istore_n 1, 1) := by decide +kernel
theorem dX1_greatest_2 : decode cX1_greatest 2 = .ok (.iconst 0, 1) := by decide +kernel
theorem dX1_greatest_3 : decode cX1_greatest 3 = .ok (.istore_n 2, 1) := by decide +kernel
theorem dX1_greatest_4 : decode cX1_greatest 4 = .ok (.iconst 0, 1) := by decide +kernel
theorem dX1_greatest_5 : decode cX1_greatest 5 = .ok (.istore_n 3, 1) := by decide +kernel
theorem dX1_greatest_6 : decode cX1_greatest 6 = .ok (.iload_n 3, 1) := by decide +kernel
theorem dX1_greatest_7 : decode cX1_greatest 7 = .ok (.aload_n 0, 1) := by decide +kernel
theorem dX1_greatest_8 : decode cX1_greatest 8 = .ok (.getfield 37, 3) := by decide +kernel
theorem dX1_greatest_11 : decode cX1_greatest 11 = .ok (.if_icmp .ge 33, 3) := by decide +kernel
theorem dX1_greatest_14 : decode cX1_greatest 14 = .ok (.iload_n 1, 1) := by decide +kernel
theorem dX1_greatest_15 : decode cX1_greatest 15 = .ok (.iconst (-1), 1) := by decide +kernel
theorem dX1_greatest_16 : decode cX1_greatest 16 = .ok (.if_icmp .eq 13, 3) := by decide +kernel
theorem dX1_greatest_19 : decode cX1_greatest 19 = .ok (.aload_n 0, 1) := by decide +kernel
theorem dX1_greatest_20 : decode cX1_greatest 20 = .ok (.getfield 31, 3) := by decide +kernel
theorem dX1_greatest_23 : decode cX1_greatest 23 = .ok (.iload_n 3, 1) := by decide +kernel
theorem dX1_greatest_24 : decode cX1_greatest 24 = .ok (.iaload, 1) := by decide +kernel
theorem dX1_greatest_25 : decode cX1_greatest 25 = .ok (.iload_n 2, 1) := by decide +kernel
theorem dX1_greatest_26 : decode cX1_greatest 26 = .ok (.if_icmp .le 12, 3) := by decide +kernel
theorem dX1_greatest_29 : decode cX1_greatest 29 = .ok (.iload_n 3, 1) := by decide +kernel
theorem dX1_greatest_30 : decode cX1_greatest 30 = .ok (.istore_n 1, 1) := by decide +kernel
theorem dX1_greatest_31 : decode cX1_greatest 31 = .ok (.aload_n 0, 1) := by decide +kernel
theorem dX1_greatest_32 : decode cX1_greatest 32 = .ok (.getfield 31, 3) := by decide +kernel
theorem dX1_greatest_35 : decode cX1_greatest 35 = .ok (.iload_n 3, 1) := by decide +kernel
theorem dX1_greatest_36 : decode cX1_greatest 36 = .ok (.iaload, 1) := by decide +kernel
theorem dX1_greatest_37 : decode cX1_greatest 37 = .ok (.istore_n 2, 1) := by decide +kernel
theorem dX1_greatest_38 : decode cX1_greatest 38 = .ok (.iinc 3 1, 3) := by decide +kernel
theorem dX1_greatest_41 : decode cX1_greatest 41 = .ok (.goto (-35), 3) := by decide +kernel
theorem dX1_greatest_44 : decode cX1_greatest 44 = .ok (.iload_n 1, 1) := by decide +kernel
theorem dX1_greatest_45 : decode cX1_greatest 45 = .ok (.ireturn, 1) := by decide +kernel
theorem dX1_firstGreatest_0 : decode cX1_firstGreatest 0 = .ok (.aload_n 0, 1) := by decide +kernel
theorem dX1_firstGreatest_1 : decode cX1_firstGreatest 1 = .ok (.iload_n 1, 1) := by decide +kernel
theorem dX1_firstGreatest_2 : decode cX1_firstGreatest 2 = .ok (.invokevirtual 110, 3) := by decide +kernel
theorem dX1_firstGreatest_5 : decode cX1_firstGreatest 5 = .ok (.aload_n 0, 1) := by decide +kernel
theorem dX1_firstGreatest_6 : decode cX1_firstGreatest 6 = .ok (.invokevirtual 114, 3) := by decide +kernel
theorem dX1_firstGreatest_9 : decode cX1_firstGreatest 9 = .ok (.ireturn, 1) := by decide +kernel
theorem dX1_bestSum_0 : decode cX1_bestSum 0 = .ok (.aload_n 0, 1) := by decide +kernel
theorem dX1_bestSum_1 : decode cX1_bestSum 1 = .ok (.aload_n 0, 1) := by decide +kernel
theorem dX1_bestSum_2 : decode cX1_bestSum 2 = .ok (.bipush 6, 2) := by decide +kernel
theorem dX1_bestSum_4 : decode cX1_bestSum 4 = .ok (.invokevirtual 118, 3) := by decide +kernel
theorem dX1_bestSum_7 : decode cX1_bestSum 7 = .ok (.bipush 6, 2) := by decide +kernel
theorem dX1_bestSum_9 : decode cX1_bestSum 9 = .ok (.invokevirtual 95, 3) := by decide +kernel
theorem dX1_bestSum_12 : decode cX1_bestSum 12 = .ok (.ireturn, 1) := by decide +kernel
theorem dX1_takenBy_0 : decode cX1_takenBy 0 = .ok (.aload_n 0, 1) := by decide +kernel
theorem dX1_takenBy_1 : decode cX1_takenBy 1 = .ok (.aload_n 0, 1) := by decide +kernel
theorem dX1_takenBy_2 : decode cX1_takenBy 2 = .ok (.getfield 31, 3) := by decide +kernel
theorem dX1_takenBy_5 : decode cX1_takenBy 5 = .ok (.aload_n 1, 1) := by decide +kernel
theorem dX1_takenBy_6 : decode cX1_takenBy 6 = .ok (.iload_n 2, 1) := by decide +kernel
theorem dX1_takenBy_7 : decode cX1_takenBy 7 = .ok (.invokevirtual 121, 3) := by decide +kernel
theorem dX1_takenBy_10 : decode cX1_takenBy 10 = .ok (.aload_n 0, 1) := by decide +kernel
theorem dX1_takenBy_11 : decode cX1_takenBy 11 = .ok (.invokevirtual 114, 3) := by decide +kernel
theorem dX1_takenBy_14 : decode cX1_takenBy 14 = .ok (.ireturn, 1) := by decide +kernel
theorem dX1_takenWithNames_0 : decode cX1_takenWithNames 0 = .ok (.iconst 0, 1) := by decide +kernel
theorem dX1_takenWithNames_1 : decode cX1_takenWithNames 1 = .ok (.istore_n 2, 1) := by decide +kernel
theorem dX1_takenWithNames_2 : decode cX1_takenWithNames 2 = .ok (.iload_n 2, 1) := by decide +kernel
theorem dX1_takenWithNames_3 : decode cX1_takenWithNames 3 = .ok (.aload_n 0, 1) := by decide +kernel
theorem dX1_takenWithNames_4 : decode cX1_takenWithNames 4 = .ok (.getfield 37, 3) := by decide +kernel
theorem dX1_takenWithNames_7 : decode cX1_takenWithNames 7 = .ok (.if_icmp .ge 48, 3) := by decide +kernel
theorem dX1_takenWithNames_10 : decode cX1_takenWithNames 10 = .ok (.aload_n 0, 1) := by decide +kernel
theorem dX1_takenWithNames_11 : decode cX1_takenWithNames 11 = .ok (.getfield 31, 3) := by decide +kernel
theorem dX1_takenWithNames_14 : decode cX1_takenWithNames 14 = .ok (.iload_n 2, 1) := by decide +kernel
theorem dX1_takenWithNames_15 : decode cX1_takenWithNames 15 = .ok (.iconst 0, 1) := by decide +kernel
theorem dX1_takenWithNames_16 : decode cX1_takenWithNames 16 = .ok (.iastore, 1) := by decide +kernel
theorem dX1_takenWithNames_17 : decode cX1_takenWithNames 17 = .ok (.iconst 0, 1) := by decide +kernel
theorem dX1_takenWithNames_18 : decode cX1_takenWithNames 18 = .ok (.istore_n 3, 1) := by decide +kernel
theorem dX1_takenWithNames_19 : decode cX1_takenWithNames 19 = .ok (.iload_n 3, 1) := by decide +kernel
theorem dX1_takenWithNames_20 : decode cX1_takenWithNames 20 = .ok (.aload_n 0, 1) := by decide +kernel
theorem dX1_takenWithNames_21 : decode cX1_takenWithNames 21 = .ok (.getfield 41, 3) := by decide +kernel
theorem dX1_takenWithNames_24 : decode cX1_takenWithNames 24 = .ok (.if_icmp .ge 25, 3) := by decide +kernel
theorem dX1_takenWithNames_27 : decode cX1_takenWithNames 27 = .ok (.aload_n 0, 1) := by decide +kernel
theorem dX1_takenWithNames_28 : decode cX1_takenWithNames 28 = .ok (.getfield 31, 3) := by decide +kernel
theorem dX1_takenWithNames_31 : decode cX1_takenWithNames 31 = .ok (.iload_n 2, 1) := by decide +kernel
theorem dX1_takenWithNames_32 : decode cX1_takenWithNames 32 = .ok (.dup2, 1) := by decide +kernel
theorem dX1_takenWithNames_33 : decode cX1_takenWithNames 33 = .ok (.iaload, 1) := by decide +kernel
theorem dX1_takenWithNames_34 : decode cX1_takenWithNames 34 = .ok (.aload_n 1, 1) := by decide +kernel
theorem dX1_takenWithNames_35 : decode cX1_takenWithNames 35 = .ok (.aload_n 0, 1) := by decide +kernel
theorem dX1_takenWithNames_36 : decode cX1_takenWithNames 36 = .ok (.iload_n 3, 1) := by decide +kernel
theorem dX1_takenWithNames_37 : decode cX1_takenWithNames 37 = .ok (.iload_n 2, 1) := by decide +kernel
theorem dX1_takenWithNames_38 : decode cX1_takenWithNames 38 = .ok (.invokevirtual 125, 3) := by decide +kernel
theorem dX1_takenWithNames_41 : decode cX1_takenWithNames 41 = .ok (.iadd, 1) := by decide +kernel
theorem dX1_takenWithNames_42 : decode cX1_takenWithNames 42 = .ok (.iastore, 1) := by decide +kernel
theorem dX1_takenWithNames_43 : decode cX1_takenWithNames 43 = .ok (.iinc 3 1, 3) := by decide +kernel
theorem dX1_takenWithNames_46 : decode cX1_takenWithNames 46 = .ok (.goto (-27), 3) := by decide +kernel
theorem dX1_takenWithNames_49 : decode cX1_takenWithNames 49 = .ok (.iinc 2 1, 3) := by decide +kernel
theorem dX1_takenWithNames_52 : decode cX1_takenWithNames 52 = .ok (.goto (-50), 3) := by decide +kernel
theorem dX1_takenWithNames_55 : decode cX1_takenWithNames 55 = .ok (.aload_n 0, 1) := by decide +kernel
theorem dX1_takenWithNames_56 : decode cX1_takenWithNames 56 = .ok (.invokevirtual 114, 3) := by decide +kernel
theorem dX1_takenWithNames_59 : decode cX1_takenWithNames 59 = .ok (.ireturn, 1) := by decide +kernel
theorem dX1_agreeing_0 : decode cX1_agreeing 0 = .ok (.iconst 0, 1) := by decide +kernel
theorem dX1_agreeing_1 : decode cX1_agreeing 1 = .ok (.istore_n 3, 1) := by decide +kernel
theorem dX1_agreeing_2 : decode cX1_agreeing 2 = .ok (.iconst 0, 1) := by decide +kernel
theorem dX1_agreeing_3 : decode cX1_agreeing 3 = .ok (.istore 4, 2) := by decide +kernel
theorem dX1_agreeing_5 : decode cX1_agreeing 5 = .ok (.iload 4, 2) := by decide +kernel
theorem dX1_agreeing_7 : decode cX1_agreeing 7 = .ok (.aload_n 0, 1) := by decide +kernel
theorem dX1_agreeing_8 : decode cX1_agreeing 8 = .ok (.getfield 41, 3) := by decide +kernel
theorem dX1_agreeing_11 : decode cX1_agreeing 11 = .ok (.if_icmp .ge 59, 3) := by decide +kernel
theorem dX1_agreeing_14 : decode cX1_agreeing 14 = .ok (.iconst 0, 1) := by decide +kernel
theorem dX1_agreeing_15 : decode cX1_agreeing 15 = .ok (.istore 5, 2) := by decide +kernel
theorem dX1_agreeing_17 : decode cX1_agreeing 17 = .ok (.iload 5, 2) := by decide +kernel
theorem dX1_agreeing_19 : decode cX1_agreeing 19 = .ok (.aload_n 0, 1) := by decide +kernel
theorem dX1_agreeing_20 : decode cX1_agreeing 20 = .ok (.getfield 37, 3) := by decide +kernel
theorem dX1_agreeing_23 : decode cX1_agreeing 23 = .ok (.if_icmp .ge 25, 3) := by decide +kernel
theorem dX1_agreeing_26 : decode cX1_agreeing 26 = .ok (.aload_n 0, 1) := by decide +kernel
theorem dX1_agreeing_27 : decode cX1_agreeing 27 = .ok (.getfield 31, 3) := by decide +kernel
theorem dX1_agreeing_30 : decode cX1_agreeing 30 = .ok (.iload 5, 2) := by decide +kernel
theorem dX1_agreeing_32 : decode cX1_agreeing 32 = .ok (.aload_n 1, 1) := by decide +kernel
theorem dX1_agreeing_33 : decode cX1_agreeing 33 = .ok (.aload_n 0, 1) := by decide +kernel
theorem dX1_agreeing_34 : decode cX1_agreeing 34 = .ok (.iload 4, 2) := by decide +kernel
theorem dX1_agreeing_36 : decode cX1_agreeing 36 = .ok (.iload 5, 2) := by decide +kernel
theorem dX1_agreeing_38 : decode cX1_agreeing 38 = .ok (.invokevirtual 102, 3) := by decide +kernel
theorem dX1_agreeing_41 : decode cX1_agreeing 41 = .ok (.iastore, 1) := by decide +kernel
theorem dX1_agreeing_42 : decode cX1_agreeing 42 = .ok (.iinc 5 1, 3) := by decide +kernel
theorem dX1_agreeing_45 : decode cX1_agreeing 45 = .ok (.goto (-28), 3) := by decide +kernel
theorem dX1_agreeing_48 : decode cX1_agreeing 48 = .ok (.iload_n 3, 1) := by decide +kernel
theorem dX1_agreeing_49 : decode cX1_agreeing 49 = .ok (.aload_n 0, 1) := by decide +kernel
theorem dX1_agreeing_50 : decode cX1_agreeing 50 = .ok (.invokevirtual 114, 3) := by decide +kernel
theorem dX1_agreeing_53 : decode cX1_agreeing 53 = .ok (.iload_n 2, 1) := by decide +kernel
theorem dX1_agreeing_54 : decode cX1_agreeing 54 = .ok (.if_icmp .ne 7, 3) := by decide +kernel
theorem dX1_agreeing_57 : decode cX1_agreeing 57 = .ok (.iconst 1, 1) := by decide +kernel
theorem dX1_agreeing_58 : decode cX1_agreeing 58 = .ok (.goto 4, 3) := by decide +kernel
theorem dX1_agreeing_61 : decode cX1_agreeing 61 = .ok (.iconst 0, 1) := by decide +kernel
theorem dX1_agreeing_62 : decode cX1_agreeing 62 = .ok (.iadd, 1) := by decide +kernel
theorem dX1_agreeing_63 : decode cX1_agreeing 63 = .ok (.istore_n 3, 1) := by decide +kernel
theorem dX1_agreeing_64 : decode cX1_agreeing 64 = .ok (.iinc 4 1, 3) := by decide +kernel
theorem dX1_agreeing_67 : decode cX1_agreeing 67 = .ok (.goto (-62), 3) := by decide +kernel
theorem dX1_agreeing_70 : decode cX1_agreeing 70 = .ok (.iload_n 3, 1) := by decide +kernel
theorem dX1_agreeing_71 : decode cX1_agreeing 71 = .ok (.ireturn, 1) := by decide +kernel
theorem dX1_turnedBy_0 : decode cX1_turnedBy 0 = .ok (.aload_n 0, 1) := by decide +kernel
theorem dX1_turnedBy_1 : decode cX1_turnedBy 1 = .ok (.aload_n 0, 1) := by decide +kernel
theorem dX1_turnedBy_2 : decode cX1_turnedBy 2 = .ok (.getfield 34, 3) := by decide +kernel
theorem dX1_turnedBy_5 : decode cX1_turnedBy 5 = .ok (.aload_n 1, 1) := by decide +kernel
theorem dX1_turnedBy_6 : decode cX1_turnedBy 6 = .ok (.iconst 1, 1) := by decide +kernel
theorem dX1_turnedBy_7 : decode cX1_turnedBy 7 = .ok (.invokevirtual 121, 3) := by decide +kernel
theorem dX1_turnedBy_10 : decode cX1_turnedBy 10 = .ok (.iconst 0, 1) := by decide +kernel
theorem dX1_turnedBy_11 : decode cX1_turnedBy 11 = .ok (.istore_n 2, 1) := by decide +kernel
theorem dX1_turnedBy_12 : decode cX1_turnedBy 12 = .ok (.iconst 0, 1) := by decide +kernel
theorem dX1_turnedBy_13 : decode cX1_turnedBy 13 = .ok (.istore_n 3, 1) := by decide +kernel
theorem dX1_turnedBy_14 : decode cX1_turnedBy 14 = .ok (.iload_n 3, 1) := by decide +kernel
theorem dX1_turnedBy_15 : decode cX1_turnedBy 15 = .ok (.aload_n 0, 1) := by decide +kernel
theorem dX1_turnedBy_16 : decode cX1_turnedBy 16 = .ok (.getfield 41, 3) := by decide +kernel
theorem dX1_turnedBy_19 : decode cX1_turnedBy 19 = .ok (.if_icmp .ge 73, 3) := by decide +kernel
theorem dX1_turnedBy_22 : decode cX1_turnedBy 22 = .ok (.iconst 0, 1) := by decide +kernel
theorem dX1_turnedBy_23 : decode cX1_turnedBy 23 = .ok (.istore 4, 2) := by decide +kernel
theorem dX1_turnedBy_25 : decode cX1_turnedBy 25 = .ok (.iload 4, 2) := by decide +kernel
theorem dX1_turnedBy_27 : decode cX1_turnedBy 27 = .ok (.aload_n 0, 1) := by decide +kernel
theorem dX1_turnedBy_28 : decode cX1_turnedBy 28 = .ok (.getfield 37, 3) := by decide +kernel
theorem dX1_turnedBy_31 : decode cX1_turnedBy 31 = .ok (.if_icmp .ge 32, 3) := by decide +kernel
theorem dX1_turnedBy_34 : decode cX1_turnedBy 34 = .ok (.aload_n 0, 1) := by decide +kernel
theorem dX1_turnedBy_35 : decode cX1_turnedBy 35 = .ok (.getfield 31, 3) := by decide +kernel
theorem dX1_turnedBy_38 : decode cX1_turnedBy 38 = .ok (.iload 4, 2) := by decide +kernel
theorem dX1_turnedBy_40 : decode cX1_turnedBy 40 = .ok (.aload_n 0, 1) := by decide +kernel
theorem dX1_turnedBy_41 : decode cX1_turnedBy 41 = .ok (.getfield 34, 3) := by decide +kernel
theorem dX1_turnedBy_44 : decode cX1_turnedBy 44 = .ok (.iload 4, 2) := by decide +kernel
theorem dX1_turnedBy_46 : decode cX1_turnedBy 46 = .ok (.iaload, 1) := by decide +kernel
theorem dX1_turnedBy_47 : decode cX1_turnedBy 47 = .ok (.aload_n 1, 1) := by decide +kernel
theorem dX1_turnedBy_48 : decode cX1_turnedBy 48 = .ok (.aload_n 0, 1) := by decide +kernel
theorem dX1_turnedBy_49 : decode cX1_turnedBy 49 = .ok (.iload_n 3, 1) := by decide +kernel
theorem dX1_turnedBy_50 : decode cX1_turnedBy 50 = .ok (.iload 4, 2) := by decide +kernel
theorem dX1_turnedBy_52 : decode cX1_turnedBy 52 = .ok (.invokevirtual 102, 3) := by decide +kernel
theorem dX1_turnedBy_55 : decode cX1_turnedBy 55 = .ok (.isub, 1) := by decide +kernel
theorem dX1_turnedBy_56 : decode cX1_turnedBy 56 = .ok (.iastore, 1) := by decide +kernel
theorem dX1_turnedBy_57 : decode cX1_turnedBy 57 = .ok (.iinc 4 1, 3) := by decide +kernel
theorem dX1_turnedBy_60 : decode cX1_turnedBy 60 = .ok (.goto (-35), 3) := by decide +kernel
theorem dX1_turnedBy_63 : decode cX1_turnedBy 63 = .ok (.aload_n 0, 1) := by decide +kernel
theorem dX1_turnedBy_64 : decode cX1_turnedBy 64 = .ok (.invokevirtual 114, 3) := by decide +kernel
theorem dX1_turnedBy_67 : decode cX1_turnedBy 67 = .ok (.istore 4, 2) := by decide +kernel
theorem dX1_turnedBy_69 : decode cX1_turnedBy 69 = .ok (.iload_n 2, 1) := by decide +kernel
theorem dX1_turnedBy_70 : decode cX1_turnedBy 70 = .ok (.iload 4, 2) := by decide +kernel
theorem dX1_turnedBy_72 : decode cX1_turnedBy 72 = .ok (.iconst (-1), 1) := by decide +kernel
theorem dX1_turnedBy_73 : decode cX1_turnedBy 73 = .ok (.if_icmp .ne 7, 3) := by decide +kernel
theorem dX1_turnedBy_76 : decode cX1_turnedBy 76 = .ok (.iconst 0, 1) := by decide +kernel
theorem dX1_turnedBy_77 : decode cX1_turnedBy 77 = .ok (.goto 7, 3) := by decide +kernel
theorem dX1_turnedBy_80 : decode cX1_turnedBy 80 = .ok (.iconst 1, 1) := by decide +kernel
theorem dX1_turnedBy_81 : decode cX1_turnedBy 81 = .ok (.iload 4, 2) := by decide +kernel
theorem dX1_turnedBy_83 : decode cX1_turnedBy 83 = .ok (.ishl, 1) := by decide +kernel
theorem dX1_turnedBy_84 : decode cX1_turnedBy 84 = .ok (.ior, 1) := by decide +kernel
theorem dX1_turnedBy_85 : decode cX1_turnedBy 85 = .ok (.istore_n 2, 1) := by decide +kernel
theorem dX1_turnedBy_86 : decode cX1_turnedBy 86 = .ok (.iinc 3 1, 3) := by decide +kernel
theorem dX1_turnedBy_89 : decode cX1_turnedBy 89 = .ok (.goto (-75), 3) := by decide +kernel
theorem dX1_turnedBy_92 : decode cX1_turnedBy 92 = .ok (.iload_n 2, 1) := by decide +kernel
theorem dX1_turnedBy_93 : decode cX1_turnedBy 93 = .ok (.ireturn, 1) := by decide +kernel
theorem dX1_pairTells_0 : decode cX1_pairTells 0 = .ok (.aload_n 0, 1) := by decide +kernel
theorem dX1_pairTells_1 : decode cX1_pairTells 1 = .ok (.iload_n 1, 1) := by decide +kernel
theorem dX1_pairTells_2 : decode cX1_pairTells 2 = .ok (.bipush 6, 2) := by decide +kernel
theorem dX1_pairTells_4 : decode cX1_pairTells 4 = .ok (.invokevirtual 95, 3) := by decide +kernel
theorem dX1_pairTells_7 : decode cX1_pairTells 7 = .ok (.aload_n 0, 1) := by decide +kernel
theorem dX1_pairTells_8 : decode cX1_pairTells 8 = .ok (.iload_n 2, 1) := by decide +kernel
theorem dX1_pairTells_9 : decode cX1_pairTells 9 = .ok (.bipush 6, 2) := by decide +kernel
theorem dX1_pairTells_11 : decode cX1_pairTells 11 = .ok (.invokevirtual 95, 3) := by decide +kernel
theorem dX1_pairTells_14 : decode cX1_pairTells 14 = .ok (.invokestatic 128, 3) := by decide +kernel
theorem dX1_pairTells_17 : decode cX1_pairTells 17 = .ok (.aload_n 0, 1) := by decide +kernel
theorem dX1_pairTells_18 : decode cX1_pairTells 18 = .ok (.getfield 31, 3) := by decide +kernel
theorem dX1_pairTells_21 : decode cX1_pairTells 21 = .ok (.iload_n 1, 1) := by decide +kernel
theorem dX1_pairTells_22 : decode cX1_pairTells 22 = .ok (.iaload, 1) := by decide +kernel
theorem dX1_pairTells_23 : decode cX1_pairTells 23 = .ok (.aload_n 0, 1) := by decide +kernel
theorem dX1_pairTells_24 : decode cX1_pairTells 24 = .ok (.getfield 31, 3) := by decide +kernel
theorem dX1_pairTells_27 : decode cX1_pairTells 27 = .ok (.iload_n 2, 1) := by decide +kernel
theorem dX1_pairTells_28 : decode cX1_pairTells 28 = .ok (.iaload, 1) := by decide +kernel
theorem dX1_pairTells_29 : decode cX1_pairTells 29 = .ok (.invokestatic 128, 3) := by decide +kernel
theorem dX1_pairTells_32 : decode cX1_pairTells 32 = .ok (.imul, 1) := by decide +kernel
theorem dX1_pairTells_33 : decode cX1_pairTells 33 = .ok (.ireturn, 1) := by decide +kernel
theorem dX1_sign_0 : decode cX1_sign 0 = .ok (.iload_n 0, 1) := by decide +kernel
theorem dX1_sign_1 : decode cX1_sign 1 = .ok (.iload_n 1, 1) := by decide +kernel
theorem dX1_sign_2 : decode cX1_sign 2 = .ok (.if_icmp .ne 5, 3) := by decide +kernel
theorem dX1_sign_5 : decode cX1_sign 5 = .ok (.iconst 0, 1) := by decide +kernel
theorem dX1_sign_6 : decode cX1_sign 6 = .ok (.ireturn, 1) := by decide +kernel
theorem dX1_sign_7 : decode cX1_sign 7 = .ok (.iload_n 0, 1) := by decide +kernel
theorem dX1_sign_8 : decode cX1_sign 8 = .ok (.iload_n 1, 1) := by decide +kernel
theorem dX1_sign_9 : decode cX1_sign 9 = .ok (.if_icmp .le 7, 3) := by decide +kernel
theorem dX1_sign_12 : decode cX1_sign 12 = .ok (.iconst 1, 1) := by decide +kernel
theorem dX1_sign_13 : decode cX1_sign 13 = .ok (.goto 4, 3) := by decide +kernel
theorem dX1_sign_16 : decode cX1_sign 16 = .ok (.iconst (-1), 1) := by decide +kernel
theorem dX1_sign_17 : decode cX1_sign 17 = .ok (.ireturn, 1) := by decide +kernel
theorem dX1_tellsByNumbers_0 : decode cX1_tellsByNumbers 0 = .ok (.iconst 0, 1) := by decide +kernel
theorem dX1_tellsByNumbers_1 : decode cX1_tellsByNumbers 1 = .ok (.istore_n 1, 1) := by decide +kernel
theorem dX1_tellsByNumbers_2 : decode cX1_tellsByNumbers 2 = .ok (.iconst 1, 1) := by decide +kernel
theorem dX1_tellsByNumbers_3 : decode cX1_tellsByNumbers 3 = .ok (.istore_n 2, 1) := by decide +kernel
theorem dX1_tellsByNumbers_4 : decode cX1_tellsByNumbers 4 = .ok (.iload_n 2, 1) := by decide +kernel
theorem dX1_tellsByNumbers_5 : decode cX1_tellsByNumbers 5 = .ok (.aload_n 0, 1) := by decide +kernel
theorem dX1_tellsByNumbers_6 : decode cX1_tellsByNumbers 6 = .ok (.getfield 37, 3) := by decide +kernel
theorem dX1_tellsByNumbers_9 : decode cX1_tellsByNumbers 9 = .ok (.if_icmp .ge 31, 3) := by decide +kernel
theorem dX1_tellsByNumbers_12 : decode cX1_tellsByNumbers 12 = .ok (.iconst 0, 1) := by decide +kernel
theorem dX1_tellsByNumbers_13 : decode cX1_tellsByNumbers 13 = .ok (.istore_n 3, 1) := by decide +kernel
theorem dX1_tellsByNumbers_14 : decode cX1_tellsByNumbers 14 = .ok (.iload_n 3, 1) := by decide +kernel
theorem dX1_tellsByNumbers_15 : decode cX1_tellsByNumbers 15 = .ok (.iload_n 2, 1) := by decide +kernel
theorem dX1_tellsByNumbers_16 : decode cX1_tellsByNumbers 16 = .ok (.if_icmp .ge 18, 3) := by decide +kernel
theorem dX1_tellsByNumbers_19 : decode cX1_tellsByNumbers 19 = .ok (.iload_n 1, 1) := by decide +kernel
theorem dX1_tellsByNumbers_20 : decode cX1_tellsByNumbers 20 = .ok (.aload_n 0, 1) := by decide +kernel
theorem dX1_tellsByNumbers_21 : decode cX1_tellsByNumbers 21 = .ok (.iload_n 3, 1) := by decide +kernel
theorem dX1_tellsByNumbers_22 : decode cX1_tellsByNumbers 22 = .ok (.iload_n 2, 1) := by decide +kernel
theorem dX1_tellsByNumbers_23 : decode cX1_tellsByNumbers 23 = .ok (.invokevirtual 131, 3) := by decide +kernel
theorem dX1_tellsByNumbers_26 : decode cX1_tellsByNumbers 26 = .ok (.iadd, 1) := by decide +kernel
theorem dX1_tellsByNumbers_27 : decode cX1_tellsByNumbers 27 = .ok (.istore_n 1, 1) := by decide +kernel
theorem dX1_tellsByNumbers_28 : decode cX1_tellsByNumbers 28 = .ok (.iinc 3 1, 3) := by decide +kernel
theorem dX1_tellsByNumbers_31 : decode cX1_tellsByNumbers 31 = .ok (.goto (-17), 3) := by decide +kernel
theorem dX1_tellsByNumbers_34 : decode cX1_tellsByNumbers 34 = .ok (.iinc 2 1, 3) := by decide +kernel
theorem dX1_tellsByNumbers_37 : decode cX1_tellsByNumbers 37 = .ok (.goto (-33), 3) := by decide +kernel
theorem dX1_tellsByNumbers_40 : decode cX1_tellsByNumbers 40 = .ok (.iload_n 1, 1) := by decide +kernel
theorem dX1_tellsByNumbers_41 : decode cX1_tellsByNumbers 41 = .ok (.ireturn, 1) := by decide +kernel
theorem dX1_tellsOf_0 : decode cX1_tellsOf 0 = .ok (.aload_n 0, 1) := by decide +kernel
theorem dX1_tellsOf_1 : decode cX1_tellsOf 1 = .ok (.aload_n 0, 1) := by decide +kernel
theorem dX1_tellsOf_2 : decode cX1_tellsOf 2 = .ok (.getfield 31, 3) := by decide +kernel
theorem dX1_tellsOf_5 : decode cX1_tellsOf 5 = .ok (.aload_n 1, 1) := by decide +kernel
theorem dX1_tellsOf_6 : decode cX1_tellsOf 6 = .ok (.iload_n 2, 1) := by decide +kernel
theorem dX1_tellsOf_7 : decode cX1_tellsOf 7 = .ok (.invokevirtual 121, 3) := by decide +kernel
theorem dX1_tellsOf_10 : decode cX1_tellsOf 10 = .ok (.aload_n 0, 1) := by decide +kernel
theorem dX1_tellsOf_11 : decode cX1_tellsOf 11 = .ok (.invokevirtual 134, 3) := by decide +kernel
theorem dX1_tellsOf_14 : decode cX1_tellsOf 14 = .ok (.ireturn, 1) := by decide +kernel
theorem dX1_tellsOfNumber_0 : decode cX1_tellsOfNumber 0 = .ok (.aload_n 0, 1) := by decide +kernel
theorem dX1_tellsOfNumber_1 : decode cX1_tellsOfNumber 1 = .ok (.iload_n 1, 1) := by decide +kernel
theorem dX1_tellsOfNumber_2 : decode cX1_tellsOfNumber 2 = .ok (.invokevirtual 110, 3) := by decide +kernel
theorem dX1_tellsOfNumber_5 : decode cX1_tellsOfNumber 5 = .ok (.aload_n 0, 1) := by decide +kernel
theorem dX1_tellsOfNumber_6 : decode cX1_tellsOfNumber 6 = .ok (.invokevirtual 134, 3) := by decide +kernel
theorem dX1_tellsOfNumber_9 : decode cX1_tellsOfNumber 9 = .ok (.ireturn, 1) := by decide +kernel
theorem dX1_joinedTells_0 : decode cX1_joinedTells 0 = .ok (.aload_n 0, 1) := by decide +kernel
theorem dX1_joinedTells_1 : decode cX1_joinedTells 1 = .ok (.aload_n 0, 1) := by decide +kernel
theorem dX1_joinedTells_2 : decode cX1_joinedTells 2 = .ok (.getfield 31, 3) := by decide +kernel
theorem dX1_joinedTells_5 : decode cX1_joinedTells 5 = .ok (.aload_n 1, 1) := by decide +kernel
theorem dX1_joinedTells_6 : decode cX1_joinedTells 6 = .ok (.iconst 1, 1) := by decide +kernel
theorem dX1_joinedTells_7 : decode cX1_joinedTells 7 = .ok (.invokevirtual 121, 3) := by decide +kernel
theorem dX1_joinedTells_10 : decode cX1_joinedTells 10 = .ok (.aload_n 0, 1) := by decide +kernel
theorem dX1_joinedTells_11 : decode cX1_joinedTells 11 = .ok (.aload_n 0, 1) := by decide +kernel
theorem dX1_joinedTells_12 : decode cX1_joinedTells 12 = .ok (.getfield 34, 3) := by decide +kernel
theorem dX1_joinedTells_15 : decode cX1_joinedTells 15 = .ok (.aload_n 2, 1) := by decide +kernel
theorem dX1_joinedTells_16 : decode cX1_joinedTells 16 = .ok (.iconst 1, 1) := by decide +kernel
theorem dX1_joinedTells_17 : decode cX1_joinedTells 17 = .ok (.invokevirtual 121, 3) := by decide +kernel
theorem dX1_joinedTells_20 : decode cX1_joinedTells 20 = .ok (.iconst 0, 1) := by decide +kernel
theorem dX1_joinedTells_21 : decode cX1_joinedTells 21 = .ok (.istore 4, 2) := by decide +kernel
theorem dX1_joinedTells_23 : decode cX1_joinedTells 23 = .ok (.iload 4, 2) := by decide +kernel
theorem dX1_joinedTells_25 : decode cX1_joinedTells 25 = .ok (.aload_n 0, 1) := by decide +kernel
theorem dX1_joinedTells_26 : decode cX1_joinedTells 26 = .ok (.getfield 37, 3) := by decide +kernel
theorem dX1_joinedTells_29 : decode cX1_joinedTells 29 = .ok (.if_icmp .ge 38, 3) := by decide +kernel
theorem dX1_joinedTells_32 : decode cX1_joinedTells 32 = .ok (.aload_n 0, 1) := by decide +kernel
theorem dX1_joinedTells_33 : decode cX1_joinedTells 33 = .ok (.getfield 31, 3) := by decide +kernel
theorem dX1_joinedTells_36 : decode cX1_joinedTells 36 = .ok (.iload 4, 2) := by decide +kernel
theorem dX1_joinedTells_38 : decode cX1_joinedTells 38 = .ok (.iload_n 3, 1) := by decide +kernel
theorem dX1_joinedTells_39 : decode cX1_joinedTells 39 = .ok (.aload_n 0, 1) := by decide +kernel
theorem dX1_joinedTells_40 : decode cX1_joinedTells 40 = .ok (.getfield 31, 3) := by decide +kernel
theorem dX1_joinedTells_43 : decode cX1_joinedTells 43 = .ok (.iload 4, 2) := by decide +kernel
theorem dX1_joinedTells_45 : decode cX1_joinedTells 45 = .ok (.iaload, 1) := by decide +kernel
theorem dX1_joinedTells_46 : decode cX1_joinedTells 46 = .ok (.imul, 1) := by decide +kernel
theorem dX1_joinedTells_47 : decode cX1_joinedTells 47 = .ok (.bipush 10, 2) := by decide +kernel
theorem dX1_joinedTells_49 : decode cX1_joinedTells 49 = .ok (.iload_n 3, 1) := by decide +kernel
theorem dX1_joinedTells_50 : decode cX1_joinedTells 50 = .ok (.isub, 1) := by decide +kernel
theorem dX1_joinedTells_51 : decode cX1_joinedTells 51 = .ok (.aload_n 0, 1) := by decide +kernel
theorem dX1_joinedTells_52 : decode cX1_joinedTells 52 = .ok (.getfield 34, 3) := by decide +kernel
theorem dX1_joinedTells_55 : decode cX1_joinedTells 55 = .ok (.iload 4, 2) := by decide +kernel
theorem dX1_joinedTells_57 : decode cX1_joinedTells 57 = .ok (.iaload, 1) := by decide +kernel
theorem dX1_joinedTells_58 : decode cX1_joinedTells 58 = .ok (.imul, 1) := by decide +kernel
theorem dX1_joinedTells_59 : decode cX1_joinedTells 59 = .ok (.iadd, 1) := by decide +kernel
theorem dX1_joinedTells_60 : decode cX1_joinedTells 60 = .ok (.iastore, 1) := by decide +kernel
theorem dX1_joinedTells_61 : decode cX1_joinedTells 61 = .ok (.iinc 4 1, 3) := by decide +kernel
theorem dX1_joinedTells_64 : decode cX1_joinedTells 64 = .ok (.goto (-41), 3) := by decide +kernel
theorem dX1_joinedTells_67 : decode cX1_joinedTells 67 = .ok (.aload_n 0, 1) := by decide +kernel
theorem dX1_joinedTells_68 : decode cX1_joinedTells 68 = .ok (.invokevirtual 134, 3) := by decide +kernel
theorem dX1_joinedTells_71 : decode cX1_joinedTells 71 = .ok (.ireturn, 1) := by decide +kernel
theorem dX1_rightedBy_0 : decode cX1_rightedBy 0 = .ok (.aload_n 0, 1) := by decide +kernel
theorem dX1_rightedBy_1 : decode cX1_rightedBy 1 = .ok (.aload_n 0, 1) := by decide +kernel
theorem dX1_rightedBy_2 : decode cX1_rightedBy 2 = .ok (.getfield 31, 3) := by decide +kernel
theorem dX1_rightedBy_5 : decode cX1_rightedBy 5 = .ok (.aload_n 1, 1) := by decide +kernel
theorem dX1_rightedBy_6 : decode cX1_rightedBy 6 = .ok (.iconst 1, 1) := by decide +kernel
theorem dX1_rightedBy_7 : decode cX1_rightedBy 7 = .ok (.invokevirtual 121, 3) := by decide +kernel
theorem dX1_rightedBy_10 : decode cX1_rightedBy 10 = .ok (.iconst 0, 1) := by decide +kernel
theorem dX1_rightedBy_11 : decode cX1_rightedBy 11 = .ok (.istore_n 3, 1) := by decide +kernel
theorem dX1_rightedBy_12 : decode cX1_rightedBy 12 = .ok (.iload_n 3, 1) := by decide +kernel
theorem dX1_rightedBy_13 : decode cX1_rightedBy 13 = .ok (.aload_n 0, 1) := by decide +kernel
theorem dX1_rightedBy_14 : decode cX1_rightedBy 14 = .ok (.getfield 37, 3) := by decide +kernel
theorem dX1_rightedBy_17 : decode cX1_rightedBy 17 = .ok (.if_icmp .ge 21, 3) := by decide +kernel
theorem dX1_rightedBy_20 : decode cX1_rightedBy 20 = .ok (.aload_n 0, 1) := by decide +kernel
theorem dX1_rightedBy_21 : decode cX1_rightedBy 21 = .ok (.getfield 34, 3) := by decide +kernel
theorem dX1_rightedBy_24 : decode cX1_rightedBy 24 = .ok (.iload_n 3, 1) := by decide +kernel
theorem dX1_rightedBy_25 : decode cX1_rightedBy 25 = .ok (.aload_n 0, 1) := by decide +kernel
theorem dX1_rightedBy_26 : decode cX1_rightedBy 26 = .ok (.iload_n 3, 1) := by decide +kernel
theorem dX1_rightedBy_27 : decode cX1_rightedBy 27 = .ok (.iconst 5, 1) := by decide +kernel
theorem dX1_rightedBy_28 : decode cX1_rightedBy 28 = .ok (.invokevirtual 95, 3) := by decide +kernel
theorem dX1_rightedBy_31 : decode cX1_rightedBy 31 = .ok (.iastore, 1) := by decide +kernel
theorem dX1_rightedBy_32 : decode cX1_rightedBy 32 = .ok (.iinc 3 1, 3) := by decide +kernel
theorem dX1_rightedBy_35 : decode cX1_rightedBy 35 = .ok (.goto (-23), 3) := by decide +kernel
theorem dX1_rightedBy_38 : decode cX1_rightedBy 38 = .ok (.iconst 0, 1) := by decide +kernel
theorem dX1_rightedBy_39 : decode cX1_rightedBy 39 = .ok (.istore_n 3, 1) := by decide +kernel
theorem dX1_rightedBy_40 : decode cX1_rightedBy 40 = .ok (.iconst 1, 1) := by decide +kernel
theorem dX1_rightedBy_41 : decode cX1_rightedBy 41 = .ok (.istore 4, 2) := by decide +kernel
theorem dX1_rightedBy_43 : decode cX1_rightedBy 43 = .ok (.iload 4, 2) := by decide +kernel
theorem dX1_rightedBy_45 : decode cX1_rightedBy 45 = .ok (.aload_n 0, 1) := by decide +kernel
theorem dX1_rightedBy_46 : decode cX1_rightedBy 46 = .ok (.getfield 37, 3) := by decide +kernel
theorem dX1_rightedBy_49 : decode cX1_rightedBy 49 = .ok (.if_icmp .ge 80, 3) := by decide +kernel
theorem dX1_rightedBy_52 : decode cX1_rightedBy 52 = .ok (.iconst 0, 1) := by decide +kernel
theorem dX1_rightedBy_53 : decode cX1_rightedBy 53 = .ok (.istore 5, 2) := by decide +kernel
theorem dX1_rightedBy_55 : decode cX1_rightedBy 55 = .ok (.iload 5, 2) := by decide +kernel
theorem dX1_rightedBy_57 : decode cX1_rightedBy 57 = .ok (.iload 4, 2) := by decide +kernel
theorem dX1_rightedBy_59 : decode cX1_rightedBy 59 = .ok (.if_icmp .ge 64, 3) := by decide +kernel
theorem dX1_rightedBy_62 : decode cX1_rightedBy 62 = .ok (.aload_n 0, 1) := by decide +kernel
theorem dX1_rightedBy_63 : decode cX1_rightedBy 63 = .ok (.aload_n 0, 1) := by decide +kernel
theorem dX1_rightedBy_64 : decode cX1_rightedBy 64 = .ok (.getfield 34, 3) := by decide +kernel
theorem dX1_rightedBy_67 : decode cX1_rightedBy 67 = .ok (.iload 5, 2) := by decide +kernel
theorem dX1_rightedBy_69 : decode cX1_rightedBy 69 = .ok (.invokevirtual 137, 3) := by decide +kernel
theorem dX1_rightedBy_72 : decode cX1_rightedBy 72 = .ok (.iload_n 2, 1) := by decide +kernel
theorem dX1_rightedBy_73 : decode cX1_rightedBy 73 = .ok (.if_icmp .ge 21, 3) := by decide +kernel
theorem dX1_rightedBy_76 : decode cX1_rightedBy 76 = .ok (.aload_n 0, 1) := by decide +kernel
theorem dX1_rightedBy_77 : decode cX1_rightedBy 77 = .ok (.aload_n 0, 1) := by decide +kernel
theorem dX1_rightedBy_78 : decode cX1_rightedBy 78 = .ok (.getfield 34, 3) := by decide +kernel
theorem dX1_rightedBy_81 : decode cX1_rightedBy 81 = .ok (.iload 4, 2) := by decide +kernel
theorem dX1_rightedBy_83 : decode cX1_rightedBy 83 = .ok (.invokevirtual 137, 3) := by decide +kernel
theorem dX1_rightedBy_86 : decode cX1_rightedBy 86 = .ok (.iload_n 2, 1) := by decide +kernel
theorem dX1_rightedBy_87 : decode cX1_rightedBy 87 = .ok (.if_icmp .ge 7, 3) := by decide +kernel
theorem dX1_rightedBy_90 : decode cX1_rightedBy 90 = .ok (.iconst 1, 1) := by decide +kernel
theorem dX1_rightedBy_91 : decode cX1_rightedBy 91 = .ok (.goto 4, 3) := by decide +kernel
theorem dX1_rightedBy_94 : decode cX1_rightedBy 94 = .ok (.iconst 0, 1) := by decide +kernel
theorem dX1_rightedBy_95 : decode cX1_rightedBy 95 = .ok (.istore 6, 2) := by decide +kernel
theorem dX1_rightedBy_97 : decode cX1_rightedBy 97 = .ok (.iload_n 3, 1) := by decide +kernel
theorem dX1_rightedBy_98 : decode cX1_rightedBy 98 = .ok (.iload 6, 2) := by decide +kernel
theorem dX1_rightedBy_100 : decode cX1_rightedBy 100 = .ok (.ifCond .eq 14, 3) := by decide +kernel
theorem dX1_rightedBy_103 : decode cX1_rightedBy 103 = .ok (.aload_n 0, 1) := by decide +kernel
theorem dX1_rightedBy_104 : decode cX1_rightedBy 104 = .ok (.iload 5, 2) := by decide +kernel
theorem dX1_rightedBy_106 : decode cX1_rightedBy 106 = .ok (.iload 4, 2) := by decide +kernel
theorem dX1_rightedBy_108 : decode cX1_rightedBy 108 = .ok (.invokevirtual 131, 3) := by decide +kernel
theorem dX1_rightedBy_111 : decode cX1_rightedBy 111 = .ok (.goto 4, 3) := by decide +kernel
theorem dX1_rightedBy_114 : decode cX1_rightedBy 114 = .ok (.iconst 0, 1) := by decide +kernel
theorem dX1_rightedBy_115 : decode cX1_rightedBy 115 = .ok (.iadd, 1) := by decide +kernel
theorem dX1_rightedBy_116 : decode cX1_rightedBy 116 = .ok (.istore_n 3, 1) := by decide +kernel
theorem dX1_rightedBy_117 : decode cX1_rightedBy 117 = .ok (.iinc 5 1, 3) := by decide +kernel
theorem dX1_rightedBy_120 : decode cX1_rightedBy 120 = .ok (.goto (-65), 3) := by decide +kernel
theorem dX1_rightedBy_123 : decode cX1_rightedBy 123 = .ok (.iinc 4 1, 3) := by decide +kernel
theorem dX1_rightedBy_126 : decode cX1_rightedBy 126 = .ok (.goto (-83), 3) := by decide +kernel
theorem dX1_rightedBy_129 : decode cX1_rightedBy 129 = .ok (.iload_n 3, 1) := by decide +kernel
theorem dX1_rightedBy_130 : decode cX1_rightedBy 130 = .ok (.ireturn, 1) := by decide +kernel
theorem dX1_rank_0 : decode cX1_rank 0 = .ok (.iconst 0, 1) := by decide +kernel
theorem dX1_rank_1 : decode cX1_rank 1 = .ok (.istore_n 3, 1) := by decide +kernel
theorem dX1_rank_2 : decode cX1_rank 2 = .ok (.iconst 0, 1) := by decide +kernel
theorem dX1_rank_3 : decode cX1_rank 3 = .ok (.istore 4, 2) := by decide +kernel
theorem dX1_rank_5 : decode cX1_rank 5 = .ok (.iload 4, 2) := by decide +kernel
theorem dX1_rank_7 : decode cX1_rank 7 = .ok (.aload_n 0, 1) := by decide +kernel
theorem dX1_rank_8 : decode cX1_rank 8 = .ok (.getfield 37, 3) := by decide +kernel
theorem dX1_rank_11 : decode cX1_rank 11 = .ok (.if_icmp .ge 43, 3) := by decide +kernel
theorem dX1_rank_14 : decode cX1_rank 14 = .ok (.iload_n 3, 1) := by decide +kernel
theorem dX1_rank_15 : decode cX1_rank 15 = .ok (.aload_n 1, 1) := by decide +kernel
theorem dX1_rank_16 : decode cX1_rank 16 = .ok (.iload 4, 2) := by decide +kernel
theorem dX1_rank_18 : decode cX1_rank 18 = .ok (.iaload, 1) := by decide +kernel
theorem dX1_rank_19 : decode cX1_rank 19 = .ok (.aload_n 1, 1) := by decide +kernel
theorem dX1_rank_20 : decode cX1_rank 20 = .ok (.iload_n 2, 1) := by decide +kernel
theorem dX1_rank_21 : decode cX1_rank 21 = .ok (.iaload, 1) := by decide +kernel
theorem dX1_rank_22 : decode cX1_rank 22 = .ok (.if_icmp .gt 19, 3) := by decide +kernel
theorem dX1_rank_25 : decode cX1_rank 25 = .ok (.aload_n 1, 1) := by decide +kernel
theorem dX1_rank_26 : decode cX1_rank 26 = .ok (.iload 4, 2) := by decide +kernel
theorem dX1_rank_28 : decode cX1_rank 28 = .ok (.iaload, 1) := by decide +kernel
theorem dX1_rank_29 : decode cX1_rank 29 = .ok (.aload_n 1, 1) := by decide +kernel
theorem dX1_rank_30 : decode cX1_rank 30 = .ok (.iload_n 2, 1) := by decide +kernel
theorem dX1_rank_31 : decode cX1_rank 31 = .ok (.iaload, 1) := by decide +kernel
theorem dX1_rank_32 : decode cX1_rank 32 = .ok (.if_icmp .ne 13, 3) := by decide +kernel
theorem dX1_rank_35 : decode cX1_rank 35 = .ok (.iload 4, 2) := by decide +kernel
theorem dX1_rank_37 : decode cX1_rank 37 = .ok (.iload_n 2, 1) := by decide +kernel
theorem dX1_rank_38 : decode cX1_rank 38 = .ok (.if_icmp .ge 7, 3) := by decide +kernel
theorem dX1_rank_41 : decode cX1_rank 41 = .ok (.iconst 1, 1) := by decide +kernel
theorem dX1_rank_42 : decode cX1_rank 42 = .ok (.goto 4, 3) := by decide +kernel
theorem dX1_rank_45 : decode cX1_rank 45 = .ok (.iconst 0, 1) := by decide +kernel
theorem dX1_rank_46 : decode cX1_rank 46 = .ok (.iadd, 1) := by decide +kernel
theorem dX1_rank_47 : decode cX1_rank 47 = .ok (.istore_n 3, 1) := by decide +kernel
theorem dX1_rank_48 : decode cX1_rank 48 = .ok (.iinc 4 1, 3) := by decide +kernel
theorem dX1_rank_51 : decode cX1_rank 51 = .ok (.goto (-46), 3) := by decide +kernel
theorem dX1_rank_54 : decode cX1_rank 54 = .ok (.iload_n 3, 1) := by decide +kernel
theorem dX1_rank_55 : decode cX1_rank 55 = .ok (.ireturn, 1) := by decide +kernel
theorem dX1_lostBy_0 : decode cX1_lostBy 0 = .ok (.iload_n 2, 1) := by decide +kernel
theorem dX1_lostBy_1 : decode cX1_lostBy 1 = .ok (.aload_n 0, 1) := by decide +kernel
theorem dX1_lostBy_2 : decode cX1_lostBy 2 = .ok (.invokevirtual 141, 3) := by decide +kernel
theorem dX1_lostBy_5 : decode cX1_lostBy 5 = .ok (.imul, 1) := by decide +kernel
theorem dX1_lostBy_6 : decode cX1_lostBy 6 = .ok (.istore_n 3, 1) := by decide +kernel
theorem dX1_lostBy_7 : decode cX1_lostBy 7 = .ok (.aload_n 0, 1) := by decide +kernel
theorem dX1_lostBy_8 : decode cX1_lostBy 8 = .ok (.aload_n 0, 1) := by decide +kernel
theorem dX1_lostBy_9 : decode cX1_lostBy 9 = .ok (.getfield 31, 3) := by decide +kernel
theorem dX1_lostBy_12 : decode cX1_lostBy 12 = .ok (.aload_n 1, 1) := by decide +kernel
theorem dX1_lostBy_13 : decode cX1_lostBy 13 = .ok (.iconst 1, 1) := by decide +kernel
theorem dX1_lostBy_14 : decode cX1_lostBy 14 = .ok (.invokevirtual 121, 3) := by decide +kernel
theorem dX1_lostBy_17 : decode cX1_lostBy 17 = .ok (.iconst 0, 1) := by decide +kernel
theorem dX1_lostBy_18 : decode cX1_lostBy 18 = .ok (.istore 4, 2) := by decide +kernel
theorem dX1_lostBy_20 : decode cX1_lostBy 20 = .ok (.iload 4, 2) := by decide +kernel
theorem dX1_lostBy_22 : decode cX1_lostBy 22 = .ok (.aload_n 0, 1) := by decide +kernel
theorem dX1_lostBy_23 : decode cX1_lostBy 23 = .ok (.getfield 37, 3) := by decide +kernel
theorem dX1_lostBy_26 : decode cX1_lostBy 26 = .ok (.if_icmp .ge 38, 3) := by decide +kernel
theorem dX1_lostBy_29 : decode cX1_lostBy 29 = .ok (.iload_n 3, 1) := by decide +kernel
theorem dX1_lostBy_30 : decode cX1_lostBy 30 = .ok (.aload_n 0, 1) := by decide +kernel
theorem dX1_lostBy_31 : decode cX1_lostBy 31 = .ok (.aload_n 0, 1) := by decide +kernel
theorem dX1_lostBy_32 : decode cX1_lostBy 32 = .ok (.getfield 31, 3) := by decide +kernel
theorem dX1_lostBy_35 : decode cX1_lostBy 35 = .ok (.iload 4, 2) := by decide +kernel
theorem dX1_lostBy_37 : decode cX1_lostBy 37 = .ok (.invokevirtual 137, 3) := by decide +kernel
theorem dX1_lostBy_40 : decode cX1_lostBy 40 = .ok (.iload_n 2, 1) := by decide +kernel
theorem dX1_lostBy_41 : decode cX1_lostBy 41 = .ok (.if_icmp .ge 14, 3) := by decide +kernel
theorem dX1_lostBy_44 : decode cX1_lostBy 44 = .ok (.aload_n 0, 1) := by decide +kernel
theorem dX1_lostBy_45 : decode cX1_lostBy 45 = .ok (.iload 4, 2) := by decide +kernel
theorem dX1_lostBy_47 : decode cX1_lostBy 47 = .ok (.bipush 6, 2) := by decide +kernel
theorem dX1_lostBy_49 : decode cX1_lostBy 49 = .ok (.invokevirtual 95, 3) := by decide +kernel
theorem dX1_lostBy_52 : decode cX1_lostBy 52 = .ok (.goto 4, 3) := by decide +kernel
theorem dX1_lostBy_55 : decode cX1_lostBy 55 = .ok (.iconst 0, 1) := by decide +kernel
theorem dX1_lostBy_56 : decode cX1_lostBy 56 = .ok (.isub, 1) := by decide +kernel
theorem dX1_lostBy_57 : decode cX1_lostBy 57 = .ok (.istore_n 3, 1) := by decide +kernel
theorem dX1_lostBy_58 : decode cX1_lostBy 58 = .ok (.iinc 4 1, 3) := by decide +kernel
theorem dX1_lostBy_61 : decode cX1_lostBy 61 = .ok (.goto (-41), 3) := by decide +kernel
theorem dX1_lostBy_64 : decode cX1_lostBy 64 = .ok (.iload_n 3, 1) := by decide +kernel
theorem dX1_lostBy_65 : decode cX1_lostBy 65 = .ok (.ireturn, 1) := by decide +kernel
theorem dX1_headsOf_0 : decode cX1_headsOf 0 = .ok (.aload_n 0, 1) := by decide +kernel
theorem dX1_headsOf_1 : decode cX1_headsOf 1 = .ok (.iload_n 1, 1) := by decide +kernel
theorem dX1_headsOf_2 : decode cX1_headsOf 2 = .ok (.invokevirtual 92, 3) := by decide +kernel
theorem dX1_headsOf_5 : decode cX1_headsOf 5 = .ok (.istore_n 2, 1) := by decide +kernel
theorem dX1_headsOf_6 : decode cX1_headsOf 6 = .ok (.sipush 1000, 3) := by decide +kernel
theorem dX1_headsOf_9 : decode cX1_headsOf 9 = .ok (.iload_n 2, 1) := by decide +kernel
theorem dX1_headsOf_10 : decode cX1_headsOf 10 = .ok (.ifCond .ne 8, 3) := by decide +kernel
theorem dX1_headsOf_13 : decode cX1_headsOf 13 = .ok (.bipush 10, 2) := by decide +kernel
theorem dX1_headsOf_15 : decode cX1_headsOf 15 = .ok (.goto 12, 3) := by decide +kernel
theorem dX1_headsOf_18 : decode cX1_headsOf 18 = .ok (.bipush 10, 2) := by decide +kernel
theorem dX1_headsOf_20 : decode cX1_headsOf 20 = .ok (.aload_n 0, 1) := by decide +kernel
theorem dX1_headsOf_21 : decode cX1_headsOf 21 = .ok (.iload_n 1, 1) := by decide +kernel
theorem dX1_headsOf_22 : decode cX1_headsOf 22 = .ok (.iconst 2, 1) := by decide +kernel
theorem dX1_headsOf_23 : decode cX1_headsOf 23 = .ok (.invokevirtual 99, 3) := by decide +kernel
theorem dX1_headsOf_26 : decode cX1_headsOf 26 = .ok (.isub, 1) := by decide +kernel
theorem dX1_headsOf_27 : decode cX1_headsOf 27 = .ok (.imul, 1) := by decide +kernel
theorem dX1_headsOf_28 : decode cX1_headsOf 28 = .ok (.istore_n 3, 1) := by decide +kernel
theorem dX1_headsOf_29 : decode cX1_headsOf 29 = .ok (.iload_n 3, 1) := by decide +kernel
theorem dX1_headsOf_30 : decode cX1_headsOf 30 = .ok (.istore 4, 2) := by decide +kernel
theorem dX1_headsOf_32 : decode cX1_headsOf 32 = .ok (.iload_n 2, 1) := by decide +kernel
theorem dX1_headsOf_33 : decode cX1_headsOf 33 = .ok (.iconst 1, 1) := by decide +kernel
theorem dX1_headsOf_34 : decode cX1_headsOf 34 = .ok (.iadd, 1) := by decide +kernel
theorem dX1_headsOf_35 : decode cX1_headsOf 35 = .ok (.istore 5, 2) := by decide +kernel
theorem dX1_headsOf_37 : decode cX1_headsOf 37 = .ok (.iload 5, 2) := by decide +kernel
theorem dX1_headsOf_39 : decode cX1_headsOf 39 = .ok (.ifCond .le 42, 3) := by decide +kernel
theorem dX1_headsOf_42 : decode cX1_headsOf 42 = .ok (.iload 5, 2) := by decide +kernel
theorem dX1_headsOf_44 : decode cX1_headsOf 44 = .ok (.aload_n 0, 1) := by decide +kernel
theorem dX1_headsOf_45 : decode cX1_headsOf 45 = .ok (.getfield 41, 3) := by decide +kernel
theorem dX1_headsOf_48 : decode cX1_headsOf 48 = .ok (.if_icmp .ge 33, 3) := by decide +kernel
theorem dX1_headsOf_51 : decode cX1_headsOf 51 = .ok (.iload_n 3, 1) := by decide +kernel
theorem dX1_headsOf_52 : decode cX1_headsOf 52 = .ok (.aload_n 0, 1) := by decide +kernel
theorem dX1_headsOf_53 : decode cX1_headsOf 53 = .ok (.aload_n 0, 1) := by decide +kernel
theorem dX1_headsOf_54 : decode cX1_headsOf 54 = .ok (.getfield 22, 3) := by decide +kernel
theorem dX1_headsOf_57 : decode cX1_headsOf 57 = .ok (.iload 5, 2) := by decide +kernel
theorem dX1_headsOf_59 : decode cX1_headsOf 59 = .ok (.iaload, 1) := by decide +kernel
theorem dX1_headsOf_60 : decode cX1_headsOf 60 = .ok (.iconst 2, 1) := by decide +kernel
theorem dX1_headsOf_61 : decode cX1_headsOf 61 = .ok (.invokevirtual 99, 3) := by decide +kernel
theorem dX1_headsOf_64 : decode cX1_headsOf 64 = .ok (.imul, 1) := by decide +kernel
theorem dX1_headsOf_65 : decode cX1_headsOf 65 = .ok (.bipush 10, 2) := by decide +kernel
theorem dX1_headsOf_67 : decode cX1_headsOf 67 = .ok (.idiv, 1) := by decide +kernel
theorem dX1_headsOf_68 : decode cX1_headsOf 68 = .ok (.istore_n 3, 1) := by decide +kernel
theorem dX1_headsOf_69 : decode cX1_headsOf 69 = .ok (.iload 4, 2) := by decide +kernel
theorem dX1_headsOf_71 : decode cX1_headsOf 71 = .ok (.iload_n 3, 1) := by decide +kernel
theorem dX1_headsOf_72 : decode cX1_headsOf 72 = .ok (.iadd, 1) := by decide +kernel
theorem dX1_headsOf_73 : decode cX1_headsOf 73 = .ok (.istore 4, 2) := by decide +kernel
theorem dX1_headsOf_75 : decode cX1_headsOf 75 = .ok (.iinc 5 1, 3) := by decide +kernel
theorem dX1_headsOf_78 : decode cX1_headsOf 78 = .ok (.goto (-41), 3) := by decide +kernel
theorem dX1_headsOf_81 : decode cX1_headsOf 81 = .ok (.iload 4, 2) := by decide +kernel
theorem dX1_headsOf_83 : decode cX1_headsOf 83 = .ok (.ireturn, 1) := by decide +kernel
theorem dX1_faultOfRanking_0 : decode cX1_faultOfRanking 0 = .ok (.iconst 0, 1) := by decide +kernel
theorem dX1_faultOfRanking_1 : decode cX1_faultOfRanking 1 = .ok (.istore_n 2, 1) := by decide +kernel
theorem dX1_faultOfRanking_2 : decode cX1_faultOfRanking 2 = .ok (.iconst 0, 1) := by decide +kernel
theorem dX1_faultOfRanking_3 : decode cX1_faultOfRanking 3 = .ok (.istore_n 3, 1) := by decide +kernel
theorem dX1_faultOfRanking_4 : decode cX1_faultOfRanking 4 = .ok (.iload_n 3, 1) := by decide +kernel
theorem dX1_faultOfRanking_5 : decode cX1_faultOfRanking 5 = .ok (.aload_n 0, 1) := by decide +kernel
theorem dX1_faultOfRanking_6 : decode cX1_faultOfRanking 6 = .ok (.getfield 37, 3) := by decide +kernel
theorem dX1_faultOfRanking_9 : decode cX1_faultOfRanking 9 = .ok (.if_icmp .ge 51, 3) := by decide +kernel
theorem dX1_faultOfRanking_12 : decode cX1_faultOfRanking 12 = .ok (.aload_n 1, 1) := by decide +kernel
theorem dX1_faultOfRanking_13 : decode cX1_faultOfRanking 13 = .ok (.iload_n 3, 1) := by decide +kernel
theorem dX1_faultOfRanking_14 : decode cX1_faultOfRanking 14 = .ok (.invokevirtual 144, 3) := by decide +kernel
theorem dX1_faultOfRanking_17 : decode cX1_faultOfRanking 17 = .ok (.istore 4, 2) := by decide +kernel
theorem dX1_faultOfRanking_19 : decode cX1_faultOfRanking 19 = .ok (.iload_n 3, 1) := by decide +kernel
theorem dX1_faultOfRanking_20 : decode cX1_faultOfRanking 20 = .ok (.aload_n 1, 1) := by decide +kernel
theorem dX1_faultOfRanking_21 : decode cX1_faultOfRanking 21 = .ok (.invokevirtual 149, 3) := by decide +kernel
theorem dX1_faultOfRanking_24 : decode cX1_faultOfRanking 24 = .ok (.if_icmp .ge 21, 3) := by decide +kernel
theorem dX1_faultOfRanking_27 : decode cX1_faultOfRanking 27 = .ok (.aload_n 0, 1) := by decide +kernel
theorem dX1_faultOfRanking_28 : decode cX1_faultOfRanking 28 = .ok (.iload 4, 2) := by decide +kernel
theorem dX1_faultOfRanking_30 : decode cX1_faultOfRanking 30 = .ok (.invokevirtual 56, 3) := by decide +kernel
theorem dX1_faultOfRanking_33 : decode cX1_faultOfRanking 33 = .ok (.ifCond .eq 12, 3) := by decide +kernel
theorem dX1_faultOfRanking_36 : decode cX1_faultOfRanking 36 = .ok (.iload_n 2, 1) := by decide +kernel
theorem dX1_faultOfRanking_37 : decode cX1_faultOfRanking 37 = .ok (.iconst 1, 1) := by decide +kernel
theorem dX1_faultOfRanking_38 : decode cX1_faultOfRanking 38 = .ok (.iload 4, 2) := by decide +kernel
theorem dX1_faultOfRanking_40 : decode cX1_faultOfRanking 40 = .ok (.ishl, 1) := by decide +kernel
theorem dX1_faultOfRanking_41 : decode cX1_faultOfRanking 41 = .ok (.iand, 1) := by decide +kernel
theorem dX1_faultOfRanking_42 : decode cX1_faultOfRanking 42 = .ok (.ifCond .eq 5, 3) := by decide +kernel
theorem dX1_faultOfRanking_45 : decode cX1_faultOfRanking 45 = .ok (.iload_n 3, 1) := by decide +kernel
theorem dX1_faultOfRanking_46 : decode cX1_faultOfRanking 46 = .ok (.ireturn, 1) := by decide +kernel
theorem dX1_faultOfRanking_47 : decode cX1_faultOfRanking 47 = .ok (.iload_n 2, 1) := by decide +kernel
theorem dX1_faultOfRanking_48 : decode cX1_faultOfRanking 48 = .ok (.iconst 1, 1) := by decide +kernel
theorem dX1_faultOfRanking_49 : decode cX1_faultOfRanking 49 = .ok (.iload 4, 2) := by decide +kernel
theorem dX1_faultOfRanking_51 : decode cX1_faultOfRanking 51 = .ok (.ishl, 1) := by decide +kernel
theorem dX1_faultOfRanking_52 : decode cX1_faultOfRanking 52 = .ok (.ior, 1) := by decide +kernel
theorem dX1_faultOfRanking_53 : decode cX1_faultOfRanking 53 = .ok (.istore_n 2, 1) := by decide +kernel
theorem dX1_faultOfRanking_54 : decode cX1_faultOfRanking 54 = .ok (.iinc 3 1, 3) := by decide +kernel
theorem dX1_faultOfRanking_57 : decode cX1_faultOfRanking 57 = .ok (.goto (-53), 3) := by decide +kernel
theorem dX1_faultOfRanking_60 : decode cX1_faultOfRanking 60 = .ok (.aload_n 1, 1) := by decide +kernel
theorem dX1_faultOfRanking_61 : decode cX1_faultOfRanking 61 = .ok (.invokevirtual 149, 3) := by decide +kernel
theorem dX1_faultOfRanking_64 : decode cX1_faultOfRanking 64 = .ok (.aload_n 0, 1) := by decide +kernel
theorem dX1_faultOfRanking_65 : decode cX1_faultOfRanking 65 = .ok (.getfield 37, 3) := by decide +kernel
theorem dX1_faultOfRanking_68 : decode cX1_faultOfRanking 68 = .ok (.if_icmp .le 10, 3) := by decide +kernel
theorem dX1_faultOfRanking_71 : decode cX1_faultOfRanking 71 = .ok (.aload_n 0, 1) := by decide +kernel
theorem dX1_faultOfRanking_72 : decode cX1_faultOfRanking 72 = .ok (.getfield 37, 3) := by decide +kernel
theorem dX1_faultOfRanking_75 : decode cX1_faultOfRanking 75 = .ok (.goto 4, 3) := by decide +kernel
theorem dX1_faultOfRanking_78 : decode cX1_faultOfRanking 78 = .ok (.iconst (-1), 1) := by decide +kernel
theorem dX1_faultOfRanking_79 : decode cX1_faultOfRanking 79 = .ok (.ireturn, 1) := by decide +kernel
theorem dX1_tellsOfRanking_0 : decode cX1_tellsOfRanking 0 = .ok (.iconst 0, 1) := by decide +kernel
theorem dX1_tellsOfRanking_1 : decode cX1_tellsOfRanking 1 = .ok (.istore_n 2, 1) := by decide +kernel
theorem dX1_tellsOfRanking_2 : decode cX1_tellsOfRanking 2 = .ok (.iload_n 2, 1) := by decide +kernel
theorem dX1_tellsOfRanking_3 : decode cX1_tellsOfRanking 3 = .ok (.aload_n 0, 1) := by decide +kernel
theorem dX1_tellsOfRanking_4 : decode cX1_tellsOfRanking 4 = .ok (.getfield 37, 3) := by decide +kernel
theorem dX1_tellsOfRanking_7 : decode cX1_tellsOfRanking 7 = .ok (.if_icmp .ge 35, 3) := by decide +kernel
theorem dX1_tellsOfRanking_10 : decode cX1_tellsOfRanking 10 = .ok (.aload_n 1, 1) := by decide +kernel
theorem dX1_tellsOfRanking_11 : decode cX1_tellsOfRanking 11 = .ok (.iload_n 2, 1) := by decide +kernel
theorem dX1_tellsOfRanking_12 : decode cX1_tellsOfRanking 12 = .ok (.invokevirtual 144, 3) := by decide +kernel
theorem dX1_tellsOfRanking_15 : decode cX1_tellsOfRanking 15 = .ok (.istore_n 3, 1) := by decide +kernel
theorem dX1_tellsOfRanking_16 : decode cX1_tellsOfRanking 16 = .ok (.aload_n 0, 1) := by decide +kernel
theorem dX1_tellsOfRanking_17 : decode cX1_tellsOfRanking 17 = .ok (.iload_n 3, 1) := by decide +kernel
theorem dX1_tellsOfRanking_18 : decode cX1_tellsOfRanking 18 = .ok (.invokevirtual 56, 3) := by decide +kernel
theorem dX1_tellsOfRanking_21 : decode cX1_tellsOfRanking 21 = .ok (.ifCond .eq 15, 3) := by decide +kernel
theorem dX1_tellsOfRanking_24 : decode cX1_tellsOfRanking 24 = .ok (.aload_n 0, 1) := by decide +kernel
theorem dX1_tellsOfRanking_25 : decode cX1_tellsOfRanking 25 = .ok (.getfield 31, 3) := by decide +kernel
theorem dX1_tellsOfRanking_28 : decode cX1_tellsOfRanking 28 = .ok (.iload_n 3, 1) := by decide +kernel
theorem dX1_tellsOfRanking_29 : decode cX1_tellsOfRanking 29 = .ok (.aload_n 0, 1) := by decide +kernel
theorem dX1_tellsOfRanking_30 : decode cX1_tellsOfRanking 30 = .ok (.getfield 37, 3) := by decide +kernel
theorem dX1_tellsOfRanking_33 : decode cX1_tellsOfRanking 33 = .ok (.iload_n 2, 1) := by decide +kernel
theorem dX1_tellsOfRanking_34 : decode cX1_tellsOfRanking 34 = .ok (.isub, 1) := by decide +kernel
theorem dX1_tellsOfRanking_35 : decode cX1_tellsOfRanking 35 = .ok (.iastore, 1) := by decide +kernel
theorem dX1_tellsOfRanking_36 : decode cX1_tellsOfRanking 36 = .ok (.iinc 2 1, 3) := by decide +kernel
theorem dX1_tellsOfRanking_39 : decode cX1_tellsOfRanking 39 = .ok (.goto (-37), 3) := by decide +kernel
theorem dX1_tellsOfRanking_42 : decode cX1_tellsOfRanking 42 = .ok (.aload_n 0, 1) := by decide +kernel
theorem dX1_tellsOfRanking_43 : decode cX1_tellsOfRanking 43 = .ok (.invokevirtual 134, 3) := by decide +kernel
theorem dX1_tellsOfRanking_46 : decode cX1_tellsOfRanking 46 = .ok (.ireturn, 1) := by decide +kernel
theorem dX2_init_0 : decode cX2_init 0 = .ok (.aload_n 0, 1) := by decide +kernel
theorem dX2_init_1 : decode cX2_init 1 = .ok (.invokespecial 3, 3) := by decide +kernel
theorem dX2_init_4 : decode cX2_init 4 = .ok (.aload_n 0, 1) := by decide +kernel
theorem dX2_init_5 : decode cX2_init 5 = .ok (.aload_n 1, 1) := by decide +kernel
theorem dX2_init_6 : decode cX2_init 6 = .ok (.putfield 9, 3) := by decide +kernel
theorem dX2_init_9 : decode cX2_init 9 = .ok (.aload_n 0, 1) := by decide +kernel
theorem dX2_init_10 : decode cX2_init 10 = .ok (.bipush 6, 2) := by decide +kernel
theorem dX2_init_12 : decode cX2_init 12 = .ok (.newarray .int, 2) := by decide +kernel
theorem dX2_init_14 : decode cX2_init 14 = .ok (.putfield 15, 3) := by decide +kernel
theorem dX2_init_17 : decode cX2_init 17 = .ok (.aload_n 0, 1) := by decide +kernel
theorem dX2_init_18 : decode cX2_init 18 = .ok (.iconst 0, 1) := by decide +kernel
theorem dX2_init_19 : decode cX2_init 19 = .ok (.putfield 19, 3) := by decide +kernel
theorem dX2_init_22 : decode cX2_init 22 = .ok (.aload_n 0, 1) := by decide +kernel
theorem dX2_init_23 : decode cX2_init 23 = .ok (.iconst (-1), 1) := by decide +kernel
theorem dX2_init_24 : decode cX2_init 24 = .ok (.putfield 23, 3) := by decide +kernel
theorem dX2_init_27 : decode cX2_init 27 = .ok (.return_, 1) := by decide +kernel
theorem dX2_draft_0 : decode cX2_draft 0 = .ok (.aload_n 0, 1) := by decide +kernel
theorem dX2_draft_1 : decode cX2_draft 1 = .ok (.getfield 9, 3) := by decide +kernel
theorem dX2_draft_4 : decode cX2_draft 4 = .ok (.areturn, 1) := by decide +kernel
theorem dX2_faultFound_0 : decode cX2_faultFound 0 = .ok (.aload_n 0, 1) := by decide +kernel
theorem dX2_faultFound_1 : decode cX2_faultFound 1 = .ok (.getfield 23, 3) := by decide +kernel
theorem dX2_faultFound_4 : decode cX2_faultFound 4 = .ok (.ireturn, 1) := by decide +kernel
theorem dX2_read_0 : decode cX2_read 0 = .ok (.aload_n 0, 1) := by decide +kernel
theorem dX2_read_1 : decode cX2_read 1 = .ok (.getfield 9, 3) := by decide +kernel
theorem dX2_read_4 : decode cX2_read 4 = .ok (.aload_n 2, 1) := by decide +kernel
theorem dX2_read_5 : decode cX2_read 5 = .ok (.invokevirtual 26, 3) := by decide +kernel
theorem dX2_read_8 : decode cX2_read 8 = .ok (.aload_n 0, 1) := by decide +kernel
theorem dX2_read_9 : decode cX2_read 9 = .ok (.iconst 0, 1) := by decide +kernel
theorem dX2_read_10 : decode cX2_read 10 = .ok (.putfield 19, 3) := by decide +kernel
theorem dX2_read_13 : decode cX2_read 13 = .ok (.aload_n 0, 1) := by decide +kernel
theorem dX2_read_14 : decode cX2_read 14 = .ok (.iconst (-1), 1) := by decide +kernel
theorem dX2_read_15 : decode cX2_read 15 = .ok (.putfield 23, 3) := by decide +kernel
theorem dX2_read_18 : decode cX2_read 18 = .ok (.iconst 0, 1) := by decide +kernel
theorem dX2_read_19 : decode cX2_read 19 = .ok (.istore_n 3, 1) := by decide +kernel
theorem dX2_read_20 : decode cX2_read 20 = .ok (.iconst 1, 1) := by decide +kernel
theorem dX2_read_21 : decode cX2_read 21 = .ok (.istore 4, 2) := by decide +kernel
theorem dX2_read_23 : decode cX2_read 23 = .ok (.iload 4, 2) := by decide +kernel
theorem dX2_read_25 : decode cX2_read 25 = .ok (.ifCond .eq 75, 3) := by decide +kernel
theorem dX2_read_28 : decode cX2_read 28 = .ok (.iload_n 3, 1) := by decide +kernel
theorem dX2_read_29 : decode cX2_read 29 = .ok (.aload_n 1, 1) := by decide +kernel
theorem dX2_read_30 : decode cX2_read 30 = .ok (.invokevirtual 32, 3) := by decide +kernel
theorem dX2_read_33 : decode cX2_read 33 = .ok (.if_icmp .gt 67, 3) := by decide +kernel
theorem dX2_read_36 : decode cX2_read 36 = .ok (.aload_n 0, 1) := by decide +kernel
theorem dX2_read_37 : decode cX2_read 37 = .ok (.aload_n 1, 1) := by decide +kernel
theorem dX2_read_38 : decode cX2_read 38 = .ok (.invokevirtual 38, 3) := by decide +kernel
theorem dX2_read_41 : decode cX2_read 41 = .ok (.iinc 3 1, 3) := by decide +kernel
theorem dX2_read_44 : decode cX2_read 44 = .ok (.aload_n 0, 1) := by decide +kernel
theorem dX2_read_45 : decode cX2_read 45 = .ok (.getfield 23, 3) := by decide +kernel
theorem dX2_read_48 : decode cX2_read 48 = .ok (.iconst (-1), 1) := by decide +kernel
theorem dX2_read_49 : decode cX2_read 49 = .ok (.if_icmp .ne 18, 3) := by decide +kernel
theorem dX2_read_52 : decode cX2_read 52 = .ok (.aload_n 0, 1) := by decide +kernel
theorem dX2_read_53 : decode cX2_read 53 = .ok (.getfield 19, 3) := by decide +kernel
theorem dX2_read_56 : decode cX2_read 56 = .ok (.aload_n 1, 1) := by decide +kernel
theorem dX2_read_57 : decode cX2_read 57 = .ok (.invokevirtual 32, 3) := by decide +kernel
theorem dX2_read_60 : decode cX2_read 60 = .ok (.if_icmp .ge 7, 3) := by decide +kernel
theorem dX2_read_63 : decode cX2_read 63 = .ok (.iconst 1, 1) := by decide +kernel
theorem dX2_read_64 : decode cX2_read 64 = .ok (.goto 4, 3) := by decide +kernel
theorem dX2_read_67 : decode cX2_read 67 = .ok (.iconst 0, 1) := by decide +kernel
theorem dX2_read_68 : decode cX2_read 68 = .ok (.istore 4, 2) := by decide +kernel
theorem dX2_read_70 : decode cX2_read 70 = .ok (.iload 4, 2) := by decide +kernel
theorem dX2_read_72 : decode cX2_read 72 = .ok (.ifCond .eq (-49), 3) := by decide +kernel
theorem dX2_read_75 : decode cX2_read 75 = .ok (.aload_n 0, 1) := by decide +kernel
theorem dX2_read_76 : decode cX2_read 76 = .ok (.aload_n 1, 1) := by decide +kernel
theorem dX2_read_77 : decode cX2_read 77 = .ok (.bipush 59, 2) := by decide +kernel
theorem dX2_read_79 : decode cX2_read 79 = .ok (.invokevirtual 42, 3) := by decide +kernel
theorem dX2_read_82 : decode cX2_read 82 = .ok (.aload_n 0, 1) := by decide +kernel
theorem dX2_read_83 : decode cX2_read 83 = .ok (.getfield 23, 3) := by decide +kernel
theorem dX2_read_86 : decode cX2_read 86 = .ok (.iconst (-1), 1) := by decide +kernel
theorem dX2_read_87 : decode cX2_read 87 = .ok (.if_icmp .ne 7, 3) := by decide +kernel
theorem dX2_read_90 : decode cX2_read 90 = .ok (.iconst 1, 1) := by decide +kernel
theorem dX2_read_91 : decode cX2_read 91 = .ok (.goto 4, 3) := by decide +kernel
theorem dX2_read_94 : decode cX2_read 94 = .ok (.iconst 0, 1) := by decide +kernel
theorem dX2_read_95 : decode cX2_read 95 = .ok (.istore 4, 2) := by decide +kernel
theorem dX2_read_97 : decode cX2_read 97 = .ok (.goto (-74), 3) := by decide +kernel
theorem dX2_read_100 : decode cX2_read 100 = .ok (.iload_n 3, 1) := by decide +kernel
theorem dX2_read_101 : decode cX2_read 101 = .ok (.ireturn, 1) := by decide +kernel
theorem dX2_readItem_0 : decode cX2_readItem 0 = .ok (.aload_n 0, 1) := by decide +kernel
theorem dX2_readItem_1 : decode cX2_readItem 1 = .ok (.getfield 19, 3) := by decide +kernel
theorem dX2_readItem_4 : decode cX2_readItem 4 = .ok (.istore_n 2, 1) := by decide +kernel
theorem dX2_readItem_5 : decode cX2_readItem 5 = .ok (.aload_n 0, 1) := by decide +kernel
theorem dX2_readItem_6 : decode cX2_readItem 6 = .ok (.aload_n 1, 1) := by decide +kernel
theorem dX2_readItem_7 : decode cX2_readItem 7 = .ok (.invokevirtual 46, 3) := by decide +kernel
theorem dX2_readItem_10 : decode cX2_readItem 10 = .ok (.istore_n 3, 1) := by decide +kernel
theorem dX2_readItem_11 : decode cX2_readItem 11 = .ok (.iload_n 3, 1) := by decide +kernel
theorem dX2_readItem_12 : decode cX2_readItem 12 = .ok (.iconst (-1), 1) := by decide +kernel
theorem dX2_readItem_13 : decode cX2_readItem 13 = .ok (.if_icmp .ne 4, 3) := by decide +kernel
theorem dX2_readItem_16 : decode cX2_readItem 16 = .ok (.return_, 1) := by decide +kernel
theorem dX2_readItem_17 : decode cX2_readItem 17 = .ok (.aload_n 0, 1) := by decide +kernel
theorem dX2_readItem_18 : decode cX2_readItem 18 = .ok (.getfield 9, 3) := by decide +kernel
theorem dX2_readItem_21 : decode cX2_readItem 21 = .ok (.iload_n 3, 1) := by decide +kernel
theorem dX2_readItem_22 : decode cX2_readItem 22 = .ok (.invokevirtual 50, 3) := by decide +kernel
theorem dX2_readItem_25 : decode cX2_readItem 25 = .ok (.ifCond .ne 9, 3) := by decide +kernel
theorem dX2_readItem_28 : decode cX2_readItem 28 = .ok (.aload_n 0, 1) := by decide +kernel
theorem dX2_readItem_29 : decode cX2_readItem 29 = .ok (.iload_n 2, 1) := by decide +kernel
theorem dX2_readItem_30 : decode cX2_readItem 30 = .ok (.putfield 23, 3) := by decide +kernel
theorem dX2_readItem_33 : decode cX2_readItem 33 = .ok (.return_, 1) := by decide +kernel
theorem dX2_readItem_34 : decode cX2_readItem 34 = .ok (.iload_n 3, 1) := by decide +kernel
theorem dX2_readItem_35 : decode cX2_readItem 35 = .ok (.invokestatic 54, 3) := by decide +kernel
theorem dX2_readItem_38 : decode cX2_readItem 38 = .ok (.istore 4, 2) := by decide +kernel
theorem dX2_readItem_40 : decode cX2_readItem 40 = .ok (.iconst 0, 1) := by decide +kernel
theorem dX2_readItem_41 : decode cX2_readItem 41 = .ok (.istore 5, 2) := by decide +kernel
theorem dX2_readItem_43 : decode cX2_readItem 43 = .ok (.iload 5, 2) := by decide +kernel
theorem dX2_readItem_45 : decode cX2_readItem 45 = .ok (.iload 4, 2) := by decide +kernel
theorem dX2_readItem_47 : decode cX2_readItem 47 = .ok (.if_icmp .ge 31, 3) := by decide +kernel
theorem dX2_readItem_50 : decode cX2_readItem 50 = .ok (.aload_n 0, 1) := by decide +kernel
theorem dX2_readItem_51 : decode cX2_readItem 51 = .ok (.getfield 23, 3) := by decide +kernel
theorem dX2_readItem_54 : decode cX2_readItem 54 = .ok (.iconst (-1), 1) := by decide +kernel
theorem dX2_readItem_55 : decode cX2_readItem 55 = .ok (.if_icmp .ne 23, 3) := by decide +kernel
theorem dX2_readItem_58 : decode cX2_readItem 58 = .ok (.aload_n 0, 1) := by decide +kernel
theorem dX2_readItem_59 : decode cX2_readItem 59 = .ok (.aload_n 1, 1) := by decide +kernel
theorem dX2_readItem_60 : decode cX2_readItem 60 = .ok (.iload 5, 2) := by decide +kernel
theorem dX2_readItem_62 : decode cX2_readItem 62 = .ok (.aload_n 0, 1) := by decide +kernel
theorem dX2_readItem_63 : decode cX2_readItem 63 = .ok (.iload_n 3, 1) := by decide +kernel
theorem dX2_readItem_64 : decode cX2_readItem 64 = .ok (.iload 5, 2) := by decide +kernel
theorem dX2_readItem_66 : decode cX2_readItem 66 = .ok (.invokevirtual 58, 3) := by decide +kernel
theorem dX2_readItem_69 : decode cX2_readItem 69 = .ok (.invokevirtual 62, 3) := by decide +kernel
theorem dX2_readItem_72 : decode cX2_readItem 72 = .ok (.iinc 5 1, 3) := by decide +kernel
theorem dX2_readItem_75 : decode cX2_readItem 75 = .ok (.goto (-32), 3) := by decide +kernel
theorem dX2_readItem_78 : decode cX2_readItem 78 = .ok (.aload_n 0, 1) := by decide +kernel
theorem dX2_readItem_79 : decode cX2_readItem 79 = .ok (.getfield 23, 3) := by decide +kernel
theorem dX2_readItem_82 : decode cX2_readItem 82 = .ok (.iconst (-1), 1) := by decide +kernel
theorem dX2_readItem_83 : decode cX2_readItem 83 = .ok (.if_icmp .ne 8, 3) := by decide +kernel
theorem dX2_readItem_86 : decode cX2_readItem 86 = .ok (.aload_n 0, 1) := by decide +kernel
theorem dX2_readItem_87 : decode cX2_readItem 87 = .ok (.iload_n 3, 1) := by decide +kernel
theorem dX2_readItem_88 : decode cX2_readItem 88 = .ok (.invokevirtual 66, 3) := by decide +kernel
theorem dX2_readItem_91 : decode cX2_readItem 91 = .ok (.return_, 1) := by decide +kernel
theorem dX2_readWord_0 : decode cX2_readWord 0 = .ok (.iconst 0, 1) := by decide +kernel
theorem dX2_readWord_1 : decode cX2_readWord 1 = .ok (.istore_n 2, 1) := by decide +kernel
theorem dX2_readWord_2 : decode cX2_readWord 2 = .ok (.iconst 0, 1) := by decide +kernel
theorem dX2_readWord_3 : decode cX2_readWord 3 = .ok (.istore_n 3, 1) := by decide +kernel
theorem dX2_readWord_4 : decode cX2_readWord 4 = .ok (.iload_n 3, 1) := by decide +kernel
theorem dX2_readWord_5 : decode cX2_readWord 5 = .ok (.iconst 4, 1) := by decide +kernel
theorem dX2_readWord_6 : decode cX2_readWord 6 = .ok (.if_icmp .ge 54, 3) := by decide +kernel
theorem dX2_readWord_9 : decode cX2_readWord 9 = .ok (.iload_n 3, 1) := by decide +kernel
theorem dX2_readWord_10 : decode cX2_readWord 10 = .ok (.invokestatic 70, 3) := by decide +kernel
theorem dX2_readWord_13 : decode cX2_readWord 13 = .ok (.astore 4, 2) := by decide +kernel
theorem dX2_readWord_15 : decode cX2_readWord 15 = .ok (.aload_n 0, 1) := by decide +kernel
theorem dX2_readWord_16 : decode cX2_readWord 16 = .ok (.aload_n 1, 1) := by decide +kernel
theorem dX2_readWord_17 : decode cX2_readWord 17 = .ok (.aload 4, 2) := by decide +kernel
theorem dX2_readWord_19 : decode cX2_readWord 19 = .ok (.invokevirtual 74, 3) := by decide +kernel
theorem dX2_readWord_22 : decode cX2_readWord 22 = .ok (.istore 5, 2) := by decide +kernel
theorem dX2_readWord_24 : decode cX2_readWord 24 = .ok (.iload 5, 2) := by decide +kernel
theorem dX2_readWord_26 : decode cX2_readWord 26 = .ok (.aload 4, 2) := by decide +kernel
theorem dX2_readWord_28 : decode cX2_readWord 28 = .ok (.invokevirtual 78, 3) := by decide +kernel
theorem dX2_readWord_31 : decode cX2_readWord 31 = .ok (.if_icmp .ne 16, 3) := by decide +kernel
theorem dX2_readWord_34 : decode cX2_readWord 34 = .ok (.aload_n 0, 1) := by decide +kernel
theorem dX2_readWord_35 : decode cX2_readWord 35 = .ok (.dup, 1) := by decide +kernel
theorem dX2_readWord_36 : decode cX2_readWord 36 = .ok (.getfield 19, 3) := by decide +kernel
theorem dX2_readWord_39 : decode cX2_readWord 39 = .ok (.iload 5, 2) := by decide +kernel
theorem dX2_readWord_41 : decode cX2_readWord 41 = .ok (.iadd, 1) := by decide +kernel
theorem dX2_readWord_42 : decode cX2_readWord 42 = .ok (.putfield 19, 3) := by decide +kernel
theorem dX2_readWord_45 : decode cX2_readWord 45 = .ok (.iload_n 3, 1) := by decide +kernel
theorem dX2_readWord_46 : decode cX2_readWord 46 = .ok (.ireturn, 1) := by decide +kernel
theorem dX2_readWord_47 : decode cX2_readWord 47 = .ok (.iload_n 2, 1) := by decide +kernel
theorem dX2_readWord_48 : decode cX2_readWord 48 = .ok (.iload 5, 2) := by decide +kernel
theorem dX2_readWord_50 : decode cX2_readWord 50 = .ok (.invokestatic 83, 3) := by decide +kernel
theorem dX2_readWord_53 : decode cX2_readWord 53 = .ok (.istore_n 2, 1) := by decide +kernel
theorem dX2_readWord_54 : decode cX2_readWord 54 = .ok (.iinc 3 1, 3) := by decide +kernel
theorem dX2_readWord_57 : decode cX2_readWord 57 = .ok (.goto (-53), 3) := by decide +kernel
theorem dX2_readWord_60 : decode cX2_readWord 60 = .ok (.aload_n 0, 1) := by decide +kernel
theorem dX2_readWord_61 : decode cX2_readWord 61 = .ok (.aload_n 0, 1) := by decide +kernel
theorem dX2_readWord_62 : decode cX2_readWord 62 = .ok (.getfield 19, 3) := by decide +kernel
theorem dX2_readWord_65 : decode cX2_readWord 65 = .ok (.iload_n 2, 1) := by decide +kernel
theorem dX2_readWord_66 : decode cX2_readWord 66 = .ok (.iadd, 1) := by decide +kernel
theorem dX2_readWord_67 : decode cX2_readWord 67 = .ok (.putfield 23, 3) := by decide +kernel
theorem dX2_readWord_70 : decode cX2_readWord 70 = .ok (.iconst (-1), 1) := by decide +kernel
theorem dX2_readWord_71 : decode cX2_readWord 71 = .ok (.ireturn, 1) := by decide +kernel
theorem dX2_alikeFrom_0 : decode cX2_alikeFrom 0 = .ok (.iconst 0, 1) := by decide +kernel
theorem dX2_alikeFrom_1 : decode cX2_alikeFrom 1 = .ok (.istore_n 3, 1) := by decide +kernel
theorem dX2_alikeFrom_2 : decode cX2_alikeFrom 2 = .ok (.iload_n 3, 1) := by decide +kernel
theorem dX2_alikeFrom_3 : decode cX2_alikeFrom 3 = .ok (.aload_n 2, 1) := by decide +kernel
theorem dX2_alikeFrom_4 : decode cX2_alikeFrom 4 = .ok (.invokevirtual 78, 3) := by decide +kernel
theorem dX2_alikeFrom_7 : decode cX2_alikeFrom 7 = .ok (.if_icmp .ge 27, 3) := by decide +kernel
theorem dX2_alikeFrom_10 : decode cX2_alikeFrom 10 = .ok (.aload_n 1, 1) := by decide +kernel
theorem dX2_alikeFrom_11 : decode cX2_alikeFrom 11 = .ok (.aload_n 0, 1) := by decide +kernel
theorem dX2_alikeFrom_12 : decode cX2_alikeFrom 12 = .ok (.getfield 19, 3) := by decide +kernel
theorem dX2_alikeFrom_15 : decode cX2_alikeFrom 15 = .ok (.iload_n 3, 1) := by decide +kernel
theorem dX2_alikeFrom_16 : decode cX2_alikeFrom 16 = .ok (.iadd, 1) := by decide +kernel
theorem dX2_alikeFrom_17 : decode cX2_alikeFrom 17 = .ok (.invokevirtual 88, 3) := by decide +kernel
theorem dX2_alikeFrom_20 : decode cX2_alikeFrom 20 = .ok (.aload_n 2, 1) := by decide +kernel
theorem dX2_alikeFrom_21 : decode cX2_alikeFrom 21 = .ok (.iload_n 3, 1) := by decide +kernel
theorem dX2_alikeFrom_22 : decode cX2_alikeFrom 22 = .ok (.invokevirtual 91, 3) := by decide +kernel
theorem dX2_alikeFrom_25 : decode cX2_alikeFrom 25 = .ok (.if_icmp .ne 9, 3) := by decide +kernel
theorem dX2_alikeFrom_28 : decode cX2_alikeFrom 28 = .ok (.iinc 3 1, 3) := by decide +kernel
theorem dX2_alikeFrom_31 : decode cX2_alikeFrom 31 = .ok (.goto (-29), 3) := by decide +kernel
theorem dX2_alikeFrom_34 : decode cX2_alikeFrom 34 = .ok (.iload_n 3, 1) := by decide +kernel
theorem dX2_alikeFrom_35 : decode cX2_alikeFrom 35 = .ok (.ireturn, 1) := by decide +kernel
theorem dX2_readNumber_0 : decode cX2_readNumber 0 = .ok (.aload_n 0, 1) := by decide +kernel
theorem dX2_readNumber_1 : decode cX2_readNumber 1 = .ok (.aload_n 1, 1) := by decide +kernel
theorem dX2_readNumber_2 : decode cX2_readNumber 2 = .ok (.bipush 32, 2) := by decide +kernel
theorem dX2_readNumber_4 : decode cX2_readNumber 4 = .ok (.invokevirtual 42, 3) := by decide +kernel
theorem dX2_readNumber_7 : decode cX2_readNumber 7 = .ok (.aload_n 0, 1) := by decide +kernel
theorem dX2_readNumber_8 : decode cX2_readNumber 8 = .ok (.getfield 23, 3) := by decide +kernel
theorem dX2_readNumber_11 : decode cX2_readNumber 11 = .ok (.iconst (-1), 1) := by decide +kernel
theorem dX2_readNumber_12 : decode cX2_readNumber 12 = .ok (.if_icmp .eq 4, 3) := by decide +kernel
theorem dX2_readNumber_15 : decode cX2_readNumber 15 = .ok (.return_, 1) := by decide +kernel
theorem dX2_readNumber_16 : decode cX2_readNumber 16 = .ok (.aload_n 0, 1) := by decide +kernel
theorem dX2_readNumber_17 : decode cX2_readNumber 17 = .ok (.getfield 19, 3) := by decide +kernel
theorem dX2_readNumber_20 : decode cX2_readNumber 20 = .ok (.istore 4, 2) := by decide +kernel
theorem dX2_readNumber_22 : decode cX2_readNumber 22 = .ok (.aload_n 0, 1) := by decide +kernel
theorem dX2_readNumber_23 : decode cX2_readNumber 23 = .ok (.aload_n 1, 1) := by decide +kernel
theorem dX2_readNumber_24 : decode cX2_readNumber 24 = .ok (.invokevirtual 95, 3) := by decide +kernel
theorem dX2_readNumber_27 : decode cX2_readNumber 27 = .ok (.ifCond .ne 12, 3) := by decide +kernel
theorem dX2_readNumber_30 : decode cX2_readNumber 30 = .ok (.aload_n 0, 1) := by decide +kernel
theorem dX2_readNumber_31 : decode cX2_readNumber 31 = .ok (.aload_n 0, 1) := by decide +kernel
theorem dX2_readNumber_32 : decode cX2_readNumber 32 = .ok (.getfield 19, 3) := by decide +kernel
theorem dX2_readNumber_35 : decode cX2_readNumber 35 = .ok (.putfield 23, 3) := by decide +kernel
theorem dX2_readNumber_38 : decode cX2_readNumber 38 = .ok (.return_, 1) := by decide +kernel
theorem dX2_readNumber_39 : decode cX2_readNumber 39 = .ok (.aload_n 1, 1) := by decide +kernel
theorem dX2_readNumber_40 : decode cX2_readNumber 40 = .ok (.aload_n 0, 1) := by decide +kernel
theorem dX2_readNumber_41 : decode cX2_readNumber 41 = .ok (.getfield 19, 3) := by decide +kernel
theorem dX2_readNumber_44 : decode cX2_readNumber 44 = .ok (.invokevirtual 88, 3) := by decide +kernel
theorem dX2_readNumber_47 : decode cX2_readNumber 47 = .ok (.bipush 48, 2) := by decide +kernel
theorem dX2_readNumber_49 : decode cX2_readNumber 49 = .ok (.isub, 1) := by decide +kernel
theorem dX2_readNumber_50 : decode cX2_readNumber 50 = .ok (.istore 5, 2) := by decide +kernel
theorem dX2_readNumber_52 : decode cX2_readNumber 52 = .ok (.aload_n 0, 1) := by decide +kernel
theorem dX2_readNumber_53 : decode cX2_readNumber 53 = .ok (.dup, 1) := by decide +kernel
theorem dX2_readNumber_54 : decode cX2_readNumber 54 = .ok (.getfield 19, 3) := by decide +kernel
theorem dX2_readNumber_57 : decode cX2_readNumber 57 = .ok (.iconst 1, 1) := by decide +kernel
theorem dX2_readNumber_58 : decode cX2_readNumber 58 = .ok (.iadd, 1) := by decide +kernel
theorem dX2_readNumber_59 : decode cX2_readNumber 59 = .ok (.putfield 19, 3) := by decide +kernel
theorem dX2_readNumber_62 : decode cX2_readNumber 62 = .ok (.aload_n 0, 1) := by decide +kernel
theorem dX2_readNumber_63 : decode cX2_readNumber 63 = .ok (.aload_n 1, 1) := by decide +kernel
theorem dX2_readNumber_64 : decode cX2_readNumber 64 = .ok (.invokevirtual 95, 3) := by decide +kernel
theorem dX2_readNumber_67 : decode cX2_readNumber 67 = .ok (.ifCond .eq 32, 3) := by decide +kernel
theorem dX2_readNumber_70 : decode cX2_readNumber 70 = .ok (.iload 5, 2) := by decide +kernel
theorem dX2_readNumber_72 : decode cX2_readNumber 72 = .ok (.bipush 10, 2) := by decide +kernel
theorem dX2_readNumber_74 : decode cX2_readNumber 74 = .ok (.imul, 1) := by decide +kernel
theorem dX2_readNumber_75 : decode cX2_readNumber 75 = .ok (.aload_n 1, 1) := by decide +kernel
theorem dX2_readNumber_76 : decode cX2_readNumber 76 = .ok (.aload_n 0, 1) := by decide +kernel
theorem dX2_readNumber_77 : decode cX2_readNumber 77 = .ok (.getfield 19, 3) := by decide +kernel
theorem dX2_readNumber_80 : decode cX2_readNumber 80 = .ok (.invokevirtual 88, 3) := by decide +kernel
theorem dX2_readNumber_83 : decode cX2_readNumber 83 = .ok (.iadd, 1) := by decide +kernel
theorem dX2_readNumber_84 : decode cX2_readNumber 84 = .ok (.bipush 48, 2) := by decide +kernel
theorem dX2_readNumber_86 : decode cX2_readNumber 86 = .ok (.isub, 1) := by decide +kernel
theorem dX2_readNumber_87 : decode cX2_readNumber 87 = .ok (.istore 5, 2) := by decide +kernel
theorem dX2_readNumber_89 : decode cX2_readNumber 89 = .ok (.aload_n 0, 1) := by decide +kernel
theorem dX2_readNumber_90 : decode cX2_readNumber 90 = .ok (.dup, 1) := by decide +kernel
theorem dX2_readNumber_91 : decode cX2_readNumber 91 = .ok (.getfield 19, 3) := by decide +kernel
theorem dX2_readNumber_94 : decode cX2_readNumber 94 = .ok (.iconst 1, 1) := by decide +kernel
theorem dX2_readNumber_95 : decode cX2_readNumber 95 = .ok (.iadd, 1) := by decide +kernel
theorem dX2_readNumber_96 : decode cX2_readNumber 96 = .ok (.putfield 19, 3) := by decide +kernel
theorem dX2_readNumber_99 : decode cX2_readNumber 99 = .ok (.iload 5, 2) := by decide +kernel
theorem dX2_readNumber_101 : decode cX2_readNumber 101 = .ok (.iload_n 3, 1) := by decide +kernel
theorem dX2_readNumber_102 : decode cX2_readNumber 102 = .ok (.if_icmp .le 12, 3) := by decide +kernel
theorem dX2_readNumber_105 : decode cX2_readNumber 105 = .ok (.aload_n 0, 1) := by decide +kernel
theorem dX2_readNumber_106 : decode cX2_readNumber 106 = .ok (.iload 4, 2) := by decide +kernel
theorem dX2_readNumber_108 : decode cX2_readNumber 108 = .ok (.putfield 23, 3) := by decide +kernel
theorem dX2_readNumber_111 : decode cX2_readNumber 111 = .ok (.goto 24, 3) := by decide +kernel
theorem dX2_readNumber_114 : decode cX2_readNumber 114 = .ok (.iload_n 2, 1) := by decide +kernel
theorem dX2_readNumber_115 : decode cX2_readNumber 115 = .ok (.ifCond .lt 20, 3) := by decide +kernel
theorem dX2_readNumber_118 : decode cX2_readNumber 118 = .ok (.iload_n 2, 1) := by decide +kernel
theorem dX2_readNumber_119 : decode cX2_readNumber 119 = .ok (.aload_n 0, 1) := by decide +kernel
theorem dX2_readNumber_120 : decode cX2_readNumber 120 = .ok (.getfield 15, 3) := by decide +kernel
theorem dX2_readNumber_123 : decode cX2_readNumber 123 = .ok (.arraylength, 1) := by decide +kernel
theorem dX2_readNumber_124 : decode cX2_readNumber 124 = .ok (.if_icmp .ge 11, 3) := by decide +kernel
theorem dX2_readNumber_127 : decode cX2_readNumber 127 = .ok (.aload_n 0, 1) := by decide +kernel
theorem dX2_readNumber_128 : decode cX2_readNumber 128 = .ok (.getfield 15, 3) := by decide +kernel
theorem dX2_readNumber_131 : decode cX2_readNumber 131 = .ok (.iload_n 2, 1) := by decide +kernel
theorem dX2_readNumber_132 : decode cX2_readNumber 132 = .ok (.iload 5, 2) := by decide +kernel
theorem dX2_readNumber_134 : decode cX2_readNumber 134 = .ok (.iastore, 1) := by decide +kernel
theorem dX2_readNumber_135 : decode cX2_readNumber 135 = .ok (.return_, 1) := by decide +kernel
theorem dX2_isDigit_0 : decode cX2_isDigit 0 = .ok (.aload_n 1, 1) := by decide +kernel
theorem dX2_isDigit_1 : decode cX2_isDigit 1 = .ok (.aload_n 0, 1) := by decide +kernel
theorem dX2_isDigit_2 : decode cX2_isDigit 2 = .ok (.getfield 19, 3) := by decide +kernel
theorem dX2_isDigit_5 : decode cX2_isDigit 5 = .ok (.invokevirtual 88, 3) := by decide +kernel
theorem dX2_isDigit_8 : decode cX2_isDigit 8 = .ok (.istore_n 2, 1) := by decide +kernel
theorem dX2_isDigit_9 : decode cX2_isDigit 9 = .ok (.iload_n 2, 1) := by decide +kernel
theorem dX2_isDigit_10 : decode cX2_isDigit 10 = .ok (.bipush 48, 2) := by decide +kernel
theorem dX2_isDigit_12 : decode cX2_isDigit 12 = .ok (.if_icmp .lt 13, 3) := by decide +kernel
theorem dX2_isDigit_15 : decode cX2_isDigit 15 = .ok (.iload_n 2, 1) := by decide +kernel
theorem dX2_isDigit_16 : decode cX2_isDigit 16 = .ok (.bipush 57, 2) := by decide +kernel
theorem dX2_isDigit_18 : decode cX2_isDigit 18 = .ok (.if_icmp .gt 7, 3) := by decide +kernel
theorem dX2_isDigit_21 : decode cX2_isDigit 21 = .ok (.iconst 1, 1) := by decide +kernel
theorem dX2_isDigit_22 : decode cX2_isDigit 22 = .ok (.goto 4, 3) := by decide +kernel
theorem dX2_isDigit_25 : decode cX2_isDigit 25 = .ok (.iconst 0, 1) := by decide +kernel
theorem dX2_isDigit_26 : decode cX2_isDigit 26 = .ok (.ireturn, 1) := by decide +kernel
theorem dX2_pass_0 : decode cX2_pass 0 = .ok (.aload_n 1, 1) := by decide +kernel
theorem dX2_pass_1 : decode cX2_pass 1 = .ok (.aload_n 0, 1) := by decide +kernel
theorem dX2_pass_2 : decode cX2_pass 2 = .ok (.getfield 19, 3) := by decide +kernel
theorem dX2_pass_5 : decode cX2_pass 5 = .ok (.invokevirtual 88, 3) := by decide +kernel
theorem dX2_pass_8 : decode cX2_pass 8 = .ok (.iload_n 2, 1) := by decide +kernel
theorem dX2_pass_9 : decode cX2_pass 9 = .ok (.if_icmp .ne 16, 3) := by decide +kernel
theorem dX2_pass_12 : decode cX2_pass 12 = .ok (.aload_n 0, 1) := by decide +kernel
theorem dX2_pass_13 : decode cX2_pass 13 = .ok (.dup, 1) := by decide +kernel
theorem dX2_pass_14 : decode cX2_pass 14 = .ok (.getfield 19, 3) := by decide +kernel
theorem dX2_pass_17 : decode cX2_pass 17 = .ok (.iconst 1, 1) := by decide +kernel
theorem dX2_pass_18 : decode cX2_pass 18 = .ok (.iadd, 1) := by decide +kernel
theorem dX2_pass_19 : decode cX2_pass 19 = .ok (.putfield 19, 3) := by decide +kernel
theorem dX2_pass_22 : decode cX2_pass 22 = .ok (.goto 11, 3) := by decide +kernel
theorem dX2_pass_25 : decode cX2_pass 25 = .ok (.aload_n 0, 1) := by decide +kernel
theorem dX2_pass_26 : decode cX2_pass 26 = .ok (.aload_n 0, 1) := by decide +kernel
theorem dX2_pass_27 : decode cX2_pass 27 = .ok (.getfield 19, 3) := by decide +kernel
theorem dX2_pass_30 : decode cX2_pass 30 = .ok (.putfield 23, 3) := by decide +kernel
theorem dX2_pass_33 : decode cX2_pass 33 = .ok (.return_, 1) := by decide +kernel
theorem dX2_tell_0 : decode cX2_tell 0 = .ok (.iload_n 1, 1) := by decide +kernel
theorem dX2_tell_1 : decode cX2_tell 1 = .ok (.tableswitch 94 0 2 #[27, 42, 71], 27) := by decide +kernel
theorem dX2_tell_28 : decode cX2_tell 28 = .ok (.aload_n 0, 1) := by decide +kernel
theorem dX2_tell_29 : decode cX2_tell 29 = .ok (.getfield 9, 3) := by decide +kernel
theorem dX2_tell_32 : decode cX2_tell 32 = .ok (.aload_n 0, 1) := by decide +kernel
theorem dX2_tell_33 : decode cX2_tell 33 = .ok (.getfield 15, 3) := by decide +kernel
theorem dX2_tell_36 : decode cX2_tell 36 = .ok (.invokevirtual 99, 3) := by decide +kernel
theorem dX2_tell_39 : decode cX2_tell 39 = .ok (.pop, 1) := by decide +kernel
theorem dX2_tell_40 : decode cX2_tell 40 = .ok (.goto 69, 3) := by decide +kernel
theorem dX2_tell_43 : decode cX2_tell 43 = .ok (.aload_n 0, 1) := by decide +kernel
theorem dX2_tell_44 : decode cX2_tell 44 = .ok (.getfield 9, 3) := by decide +kernel
theorem dX2_tell_47 : decode cX2_tell 47 = .ok (.aload_n 0, 1) := by decide +kernel
theorem dX2_tell_48 : decode cX2_tell 48 = .ok (.getfield 15, 3) := by decide +kernel
theorem dX2_tell_51 : decode cX2_tell 51 = .ok (.iconst 0, 1) := by decide +kernel
theorem dX2_tell_52 : decode cX2_tell 52 = .ok (.iaload, 1) := by decide +kernel
theorem dX2_tell_53 : decode cX2_tell 53 = .ok (.aload_n 0, 1) := by decide +kernel
theorem dX2_tell_54 : decode cX2_tell 54 = .ok (.getfield 15, 3) := by decide +kernel
theorem dX2_tell_57 : decode cX2_tell 57 = .ok (.iconst 1, 1) := by decide +kernel
theorem dX2_tell_58 : decode cX2_tell 58 = .ok (.iaload, 1) := by decide +kernel
theorem dX2_tell_59 : decode cX2_tell 59 = .ok (.aload_n 0, 1) := by decide +kernel
theorem dX2_tell_60 : decode cX2_tell 60 = .ok (.getfield 15, 3) := by decide +kernel
theorem dX2_tell_63 : decode cX2_tell 63 = .ok (.iconst 2, 1) := by decide +kernel
theorem dX2_tell_64 : decode cX2_tell 64 = .ok (.iaload, 1) := by decide +kernel
theorem dX2_tell_65 : decode cX2_tell 65 = .ok (.invokevirtual 103, 3) := by decide +kernel
theorem dX2_tell_68 : decode cX2_tell 68 = .ok (.pop, 1) := by decide +kernel
theorem dX2_tell_69 : decode cX2_tell 69 = .ok (.goto 40, 3) := by decide +kernel
theorem dX2_tell_72 : decode cX2_tell 72 = .ok (.aload_n 0, 1) := by decide +kernel
theorem dX2_tell_73 : decode cX2_tell 73 = .ok (.getfield 9, 3) := by decide +kernel
theorem dX2_tell_76 : decode cX2_tell 76 = .ok (.aload_n 0, 1) := by decide +kernel
theorem dX2_tell_77 : decode cX2_tell 77 = .ok (.getfield 15, 3) := by decide +kernel
theorem dX2_tell_80 : decode cX2_tell 80 = .ok (.iconst 0, 1) := by decide +kernel
theorem dX2_tell_81 : decode cX2_tell 81 = .ok (.iaload, 1) := by decide +kernel
theorem dX2_tell_82 : decode cX2_tell 82 = .ok (.aload_n 0, 1) := by decide +kernel
theorem dX2_tell_83 : decode cX2_tell 83 = .ok (.getfield 15, 3) := by decide +kernel
theorem dX2_tell_86 : decode cX2_tell 86 = .ok (.iconst 1, 1) := by decide +kernel
theorem dX2_tell_87 : decode cX2_tell 87 = .ok (.iaload, 1) := by decide +kernel
theorem dX2_tell_88 : decode cX2_tell 88 = .ok (.invokevirtual 107, 3) := by decide +kernel
theorem dX2_tell_91 : decode cX2_tell 91 = .ok (.pop, 1) := by decide +kernel
theorem dX2_tell_92 : decode cX2_tell 92 = .ok (.goto 17, 3) := by decide +kernel
theorem dX2_tell_95 : decode cX2_tell 95 = .ok (.aload_n 0, 1) := by decide +kernel
theorem dX2_tell_96 : decode cX2_tell 96 = .ok (.getfield 9, 3) := by decide +kernel
theorem dX2_tell_99 : decode cX2_tell 99 = .ok (.aload_n 0, 1) := by decide +kernel
theorem dX2_tell_100 : decode cX2_tell 100 = .ok (.getfield 15, 3) := by decide +kernel
theorem dX2_tell_103 : decode cX2_tell 103 = .ok (.iconst 0, 1) := by decide +kernel
theorem dX2_tell_104 : decode cX2_tell 104 = .ok (.iaload, 1) := by decide +kernel
theorem dX2_tell_105 : decode cX2_tell 105 = .ok (.invokevirtual 110, 3) := by decide +kernel
theorem dX2_tell_108 : decode cX2_tell 108 = .ok (.pop, 1) := by decide +kernel
theorem dX2_tell_109 : decode cX2_tell 109 = .ok (.return_, 1) := by decide +kernel
theorem dX2_lettersOf_0 : decode cX2_lettersOf 0 = .ok (.iload_n 0, 1) := by decide +kernel
theorem dX2_lettersOf_1 : decode cX2_lettersOf 1 = .ok (.tableswitch 36 0 2 #[27, 30, 33], 27) := by decide +kernel
theorem dX2_lettersOf_28 : decode cX2_lettersOf 28 = .ok (.ldc 113, 2) := by decide +kernel
theorem dX2_lettersOf_30 : decode cX2_lettersOf 30 = .ok (.areturn, 1) := by decide +kernel
theorem dX2_lettersOf_31 : decode cX2_lettersOf 31 = .ok (.ldc 115, 2) := by decide +kernel
theorem dX2_lettersOf_33 : decode cX2_lettersOf 33 = .ok (.areturn, 1) := by decide +kernel
theorem dX2_lettersOf_34 : decode cX2_lettersOf 34 = .ok (.ldc 117, 2) := by decide +kernel
theorem dX2_lettersOf_36 : decode cX2_lettersOf 36 = .ok (.areturn, 1) := by decide +kernel
theorem dX2_lettersOf_37 : decode cX2_lettersOf 37 = .ok (.ldc 119, 2) := by decide +kernel
theorem dX2_lettersOf_39 : decode cX2_lettersOf 39 = .ok (.areturn, 1) := by decide +kernel
theorem dX2_numbersBehind_0 : decode cX2_numbersBehind 0 = .ok (.iload_n 0, 1) := by decide +kernel
theorem dX2_numbersBehind_1 : decode cX2_numbersBehind 1 = .ok (.tableswitch 34 0 2 #[27, 30, 32], 27) := by decide +kernel
theorem dX2_numbersBehind_28 : decode cX2_numbersBehind 28 = .ok (.bipush 6, 2) := by decide +kernel
theorem dX2_numbersBehind_30 : decode cX2_numbersBehind 30 = .ok (.ireturn, 1) := by decide +kernel
theorem dX2_numbersBehind_31 : decode cX2_numbersBehind 31 = .ok (.iconst 3, 1) := by decide +kernel
theorem dX2_numbersBehind_32 : decode cX2_numbersBehind 32 = .ok (.ireturn, 1) := by decide +kernel
theorem dX2_numbersBehind_33 : decode cX2_numbersBehind 33 = .ok (.iconst 2, 1) := by decide +kernel
theorem dX2_numbersBehind_34 : decode cX2_numbersBehind 34 = .ok (.ireturn, 1) := by decide +kernel
theorem dX2_numbersBehind_35 : decode cX2_numbersBehind 35 = .ok (.iconst 1, 1) := by decide +kernel
theorem dX2_numbersBehind_36 : decode cX2_numbersBehind 36 = .ok (.ireturn, 1) := by decide +kernel
theorem dX2_mostOf_0 : decode cX2_mostOf 0 = .ok (.iload_n 1, 1) := by decide +kernel
theorem dX2_mostOf_1 : decode cX2_mostOf 1 = .ok (.ifCond .ne 21, 3) := by decide +kernel
theorem dX2_mostOf_4 : decode cX2_mostOf 4 = .ok (.iload_n 2, 1) := by decide +kernel
theorem dX2_mostOf_5 : decode cX2_mostOf 5 = .ok (.ifCond .lt 17, 3) := by decide +kernel
theorem dX2_mostOf_8 : decode cX2_mostOf 8 = .ok (.iload_n 2, 1) := by decide +kernel
theorem dX2_mostOf_9 : decode cX2_mostOf 9 = .ok (.getstatic 121, 3) := by decide +kernel
theorem dX2_mostOf_12 : decode cX2_mostOf 12 = .ok (.arraylength, 1) := by decide +kernel
theorem dX2_mostOf_13 : decode cX2_mostOf 13 = .ok (.if_icmp .ge 9, 3) := by decide +kernel
theorem dX2_mostOf_16 : decode cX2_mostOf 16 = .ok (.getstatic 121, 3) := by decide +kernel
theorem dX2_mostOf_19 : decode cX2_mostOf 19 = .ok (.iload_n 2, 1) := by decide +kernel
theorem dX2_mostOf_20 : decode cX2_mostOf 20 = .ok (.iaload, 1) := by decide +kernel
theorem dX2_mostOf_21 : decode cX2_mostOf 21 = .ok (.ireturn, 1) := by decide +kernel
theorem dX2_mostOf_22 : decode cX2_mostOf 22 = .ok (.iload_n 1, 1) := by decide +kernel
theorem dX2_mostOf_23 : decode cX2_mostOf 23 = .ok (.iconst 1, 1) := by decide +kernel
theorem dX2_mostOf_24 : decode cX2_mostOf 24 = .ok (.if_icmp .ne 21, 3) := by decide +kernel
theorem dX2_mostOf_27 : decode cX2_mostOf 27 = .ok (.iload_n 2, 1) := by decide +kernel
theorem dX2_mostOf_28 : decode cX2_mostOf 28 = .ok (.ifCond .lt 17, 3) := by decide +kernel
theorem dX2_mostOf_31 : decode cX2_mostOf 31 = .ok (.iload_n 2, 1) := by decide +kernel
theorem dX2_mostOf_32 : decode cX2_mostOf 32 = .ok (.getstatic 124, 3) := by decide +kernel
theorem dX2_mostOf_35 : decode cX2_mostOf 35 = .ok (.arraylength, 1) := by decide +kernel
theorem dX2_mostOf_36 : decode cX2_mostOf 36 = .ok (.if_icmp .ge 9, 3) := by decide +kernel
theorem dX2_mostOf_39 : decode cX2_mostOf 39 = .ok (.getstatic 124, 3) := by decide +kernel
theorem dX2_mostOf_42 : decode cX2_mostOf 42 = .ok (.iload_n 2, 1) := by decide +kernel
theorem dX2_mostOf_43 : decode cX2_mostOf 43 = .ok (.iaload, 1) := by decide +kernel
theorem dX2_mostOf_44 : decode cX2_mostOf 44 = .ok (.ireturn, 1) := by decide +kernel
theorem dX2_mostOf_45 : decode cX2_mostOf 45 = .ok (.iload_n 1, 1) := by decide +kernel
theorem dX2_mostOf_46 : decode cX2_mostOf 46 = .ok (.iconst 2, 1) := by decide +kernel
theorem dX2_mostOf_47 : decode cX2_mostOf 47 = .ok (.if_icmp .ne 21, 3) := by decide +kernel
theorem dX2_mostOf_50 : decode cX2_mostOf 50 = .ok (.iload_n 2, 1) := by decide +kernel
theorem dX2_mostOf_51 : decode cX2_mostOf 51 = .ok (.ifCond .lt 17, 3) := by decide +kernel
theorem dX2_mostOf_54 : decode cX2_mostOf 54 = .ok (.iload_n 2, 1) := by decide +kernel
theorem dX2_mostOf_55 : decode cX2_mostOf 55 = .ok (.getstatic 127, 3) := by decide +kernel
theorem dX2_mostOf_58 : decode cX2_mostOf 58 = .ok (.arraylength, 1) := by decide +kernel
theorem dX2_mostOf_59 : decode cX2_mostOf 59 = .ok (.if_icmp .ge 9, 3) := by decide +kernel
theorem dX2_mostOf_62 : decode cX2_mostOf 62 = .ok (.getstatic 127, 3) := by decide +kernel
theorem dX2_mostOf_65 : decode cX2_mostOf 65 = .ok (.iload_n 2, 1) := by decide +kernel
theorem dX2_mostOf_66 : decode cX2_mostOf 66 = .ok (.iaload, 1) := by decide +kernel
theorem dX2_mostOf_67 : decode cX2_mostOf 67 = .ok (.ireturn, 1) := by decide +kernel
theorem dX2_mostOf_68 : decode cX2_mostOf 68 = .ok (.aload_n 0, 1) := by decide +kernel
theorem dX2_mostOf_69 : decode cX2_mostOf 69 = .ok (.getfield 9, 3) := by decide +kernel
theorem dX2_mostOf_72 : decode cX2_mostOf 72 = .ok (.invokevirtual 130, 3) := by decide +kernel
theorem dX2_mostOf_75 : decode cX2_mostOf 75 = .ok (.iconst 1, 1) := by decide +kernel
theorem dX2_mostOf_76 : decode cX2_mostOf 76 = .ok (.isub, 1) := by decide +kernel
theorem dX2_mostOf_77 : decode cX2_mostOf 77 = .ok (.ireturn, 1) := by decide +kernel
theorem dX3_init_0 : decode cX3_init 0 = .ok (.aload_n 0, 1) := by decide +kernel
theorem dX3_init_1 : decode cX3_init 1 = .ok (.iload_n 1, 1) := by decide +kernel
theorem dX3_init_2 : decode cX3_init 2 = .ok (.iload_n 2, 1) := by decide +kernel
theorem dX3_init_3 : decode cX3_init 3 = .ok (.iload_n 3, 1) := by decide +kernel
theorem dX3_init_4 : decode cX3_init 4 = .ok (.aload 4, 2) := by decide +kernel
theorem dX3_init_6 : decode cX3_init 6 = .ok (.invokespecial 3, 3) := by decide +kernel
theorem dX3_init_9 : decode cX3_init 9 = .ok (.return_, 1) := by decide +kernel
theorem dX3_shown_0 : decode cX3_shown 0 = .ok (.aload_n 1, 1) := by decide +kernel
theorem dX3_shown_1 : decode cX3_shown 1 = .ok (.iload_n 3, 1) := by decide +kernel
theorem dX3_shown_2 : decode cX3_shown 2 = .ok (.bipush 6, 2) := by decide +kernel
theorem dX3_shown_4 : decode cX3_shown 4 = .ok (.invokevirtual 9, 3) := by decide +kernel
theorem dX3_shown_7 : decode cX3_shown 7 = .ok (.aload_n 0, 1) := by decide +kernel
theorem dX3_shown_8 : decode cX3_shown 8 = .ok (.getfield 15, 3) := by decide +kernel
theorem dX3_shown_11 : decode cX3_shown 11 = .ok (.if_icmp .ge 9, 3) := by decide +kernel
theorem dX3_shown_14 : decode cX3_shown 14 = .ok (.sipush 260, 3) := by decide +kernel
theorem dX3_shown_17 : decode cX3_shown 17 = .ok (.goto 6, 3) := by decide +kernel
theorem dX3_shown_20 : decode cX3_shown 20 = .ok (.sipush 270, 3) := by decide +kernel
theorem dX3_shown_23 : decode cX3_shown 23 = .ok (.ireturn, 1) := by decide +kernel
theorem dX3_sums_0 : decode cX3_sums 0 = .ok (.aload_n 0, 1) := by decide +kernel
theorem dX3_sums_1 : decode cX3_sums 1 = .ok (.getfield 21, 3) := by decide +kernel
theorem dX3_sums_4 : decode cX3_sums 4 = .ok (.bipush 50, 2) := by decide +kernel
theorem dX3_sums_6 : decode cX3_sums 6 = .ok (.invokevirtual 25, 3) := by decide +kernel
theorem dX3_sums_9 : decode cX3_sums 9 = .ok (.aload_n 0, 1) := by decide +kernel
theorem dX3_sums_10 : decode cX3_sums 10 = .ok (.iload_n 1, 1) := by decide +kernel
theorem dX3_sums_11 : decode cX3_sums 11 = .ok (.invokespecial 31, 3) := by decide +kernel
theorem dX3_sums_14 : decode cX3_sums 14 = .ok (.ineg, 1) := by decide +kernel
theorem dX3_sums_15 : decode cX3_sums 15 = .ok (.ireturn, 1) := by decide +kernel
theorem dX4_init_0 : decode cX4_init 0 = .ok (.aload_n 0, 1) := by decide +kernel
theorem dX4_init_1 : decode cX4_init 1 = .ok (.iload_n 1, 1) := by decide +kernel
theorem dX4_init_2 : decode cX4_init 2 = .ok (.iload_n 2, 1) := by decide +kernel
theorem dX4_init_3 : decode cX4_init 3 = .ok (.iload_n 3, 1) := by decide +kernel
theorem dX4_init_4 : decode cX4_init 4 = .ok (.aload 4, 2) := by decide +kernel
theorem dX4_init_6 : decode cX4_init 6 = .ok (.invokespecial 1, 3) := by decide +kernel
theorem dX4_init_9 : decode cX4_init 9 = .ok (.return_, 1) := by decide +kernel
theorem dX4_tenths_0 : decode cX4_tenths 0 = .ok (.aload_n 0, 1) := by decide +kernel
theorem dX4_tenths_1 : decode cX4_tenths 1 = .ok (.invokespecial 7, 3) := by decide +kernel
theorem dX4_tenths_4 : decode cX4_tenths 4 = .ok (.iconst 2, 1) := by decide +kernel
theorem dX4_tenths_5 : decode cX4_tenths 5 = .ok (.idiv, 1) := by decide +kernel
theorem dX4_tenths_6 : decode cX4_tenths 6 = .ok (.ireturn, 1) := by decide +kernel
theorem dX4_asks_0 : decode cX4_asks 0 = .ok (.aload_n 0, 1) := by decide +kernel
theorem dX4_asks_1 : decode cX4_asks 1 = .ok (.getfield 11, 3) := by decide +kernel
theorem dX4_asks_4 : decode cX4_asks 4 = .ok (.bipush 30, 2) := by decide +kernel
theorem dX4_asks_6 : decode cX4_asks 6 = .ok (.invokevirtual 17, 3) := by decide +kernel
theorem dX4_asks_9 : decode cX4_asks 9 = .ok (.aload_n 0, 1) := by decide +kernel
theorem dX4_asks_10 : decode cX4_asks 10 = .ok (.iload_n 1, 1) := by decide +kernel
theorem dX4_asks_11 : decode cX4_asks 11 = .ok (.invokespecial 23, 3) := by decide +kernel
theorem dX4_asks_14 : decode cX4_asks 14 = .ok (.iconst 3, 1) := by decide +kernel
theorem dX4_asks_15 : decode cX4_asks 15 = .ok (.imul, 1) := by decide +kernel
theorem dX4_asks_16 : decode cX4_asks 16 = .ok (.ireturn, 1) := by decide +kernel
theorem dX5_init_0 : decode cX5_init 0 = .ok (.aload_n 0, 1) := by decide +kernel
theorem dX5_init_1 : decode cX5_init 1 = .ok (.iload_n 1, 1) := by decide +kernel
theorem dX5_init_2 : decode cX5_init 2 = .ok (.iload_n 2, 1) := by decide +kernel
theorem dX5_init_3 : decode cX5_init 3 = .ok (.iload_n 3, 1) := by decide +kernel
theorem dX5_init_4 : decode cX5_init 4 = .ok (.aload 4, 2) := by decide +kernel
theorem dX5_init_6 : decode cX5_init 6 = .ok (.invokespecial 3, 3) := by decide +kernel
theorem dX5_init_9 : decode cX5_init 9 = .ok (.return_, 1) := by decide +kernel
theorem dX5_shown_0 : decode cX5_shown 0 = .ok (.bipush 30, 2) := by decide +kernel
theorem dX5_shown_2 : decode cX5_shown 2 = .ok (.aload_n 1, 1) := by decide +kernel
theorem dX5_shown_3 : decode cX5_shown 3 = .ok (.iload_n 3, 1) := by decide +kernel
theorem dX5_shown_4 : decode cX5_shown 4 = .ok (.iconst 5, 1) := by decide +kernel
theorem dX5_shown_5 : decode cX5_shown 5 = .ok (.invokevirtual 9, 3) := by decide +kernel
theorem dX5_shown_8 : decode cX5_shown 8 = .ok (.imul, 1) := by decide +kernel
theorem dX5_shown_9 : decode cX5_shown 9 = .ok (.aload_n 1, 1) := by decide +kernel
theorem dX5_shown_10 : decode cX5_shown 10 = .ok (.iload_n 2, 1) := by decide +kernel
theorem dX5_shown_11 : decode cX5_shown 11 = .ok (.iload_n 3, 1) := by decide +kernel
theorem dX5_shown_12 : decode cX5_shown 12 = .ok (.invokevirtual 15, 3) := by decide +kernel
theorem dX5_shown_15 : decode cX5_shown 15 = .ok (.iadd, 1) := by decide +kernel
theorem dX5_shown_16 : decode cX5_shown 16 = .ok (.ireturn, 1) := by decide +kernel
theorem dX5_feels_0 : decode cX5_feels 0 = .ok (.aload_n 0, 1) := by decide +kernel
theorem dX5_feels_1 : decode cX5_feels 1 = .ok (.getfield 18, 3) := by decide +kernel
theorem dX5_feels_4 : decode cX5_feels 4 = .ok (.bipush 60, 2) := by decide +kernel
theorem dX5_feels_6 : decode cX5_feels 6 = .ok (.invokevirtual 24, 3) := by decide +kernel
theorem dX5_feels_9 : decode cX5_feels 9 = .ok (.aload_n 0, 1) := by decide +kernel
theorem dX5_feels_10 : decode cX5_feels 10 = .ok (.iload_n 1, 1) := by decide +kernel
theorem dX5_feels_11 : decode cX5_feels 11 = .ok (.invokespecial 30, 3) := by decide +kernel
theorem dX5_feels_14 : decode cX5_feels 14 = .ok (.iconst 2, 1) := by decide +kernel
theorem dX5_feels_15 : decode cX5_feels 15 = .ok (.imul, 1) := by decide +kernel
theorem dX5_feels_16 : decode cX5_feels 16 = .ok (.ireturn, 1) := by decide +kernel
theorem dX6_init_0 : decode cX6_init 0 = .ok (.aload_n 0, 1) := by decide +kernel
theorem dX6_init_1 : decode cX6_init 1 = .ok (.invokespecial 3, 3) := by decide +kernel
theorem dX6_init_4 : decode cX6_init 4 = .ok (.aload_n 0, 1) := by decide +kernel
theorem dX6_init_5 : decode cX6_init 5 = .ok (.sipush 160, 3) := by decide +kernel
theorem dX6_init_8 : decode cX6_init 8 = .ok (.newarray .long, 2) := by decide +kernel
theorem dX6_init_10 : decode cX6_init 10 = .ok (.putfield 9, 3) := by decide +kernel
theorem dX6_init_13 : decode cX6_init 13 = .ok (.aload_n 0, 1) := by decide +kernel
theorem dX6_init_14 : decode cX6_init 14 = .ok (.iconst (-1), 1) := by decide +kernel
theorem dX6_init_15 : decode cX6_init 15 = .ok (.putfield 15, 3) := by decide +kernel
theorem dX6_init_18 : decode cX6_init 18 = .ok (.aload_n 0, 1) := by decide +kernel
theorem dX6_init_19 : decode cX6_init 19 = .ok (.iconst 0, 1) := by decide +kernel
theorem dX6_init_20 : decode cX6_init 20 = .ok (.putfield 19, 3) := by decide +kernel
theorem dX6_init_23 : decode cX6_init 23 = .ok (.aload_n 0, 1) := by decide +kernel
theorem dX6_init_24 : decode cX6_init 24 = .ok (.iconst (-1), 1) := by decide +kernel
theorem dX6_init_25 : decode cX6_init 25 = .ok (.putfield 22, 3) := by decide +kernel
theorem dX6_init_28 : decode cX6_init 28 = .ok (.return_, 1) := by decide +kernel
theorem dX6_holdRow_0 : decode cX6_holdRow 0 = .ok (.aload_n 0, 1) := by decide +kernel
theorem dX6_holdRow_1 : decode cX6_holdRow 1 = .ok (.iconst (-1), 1) := by decide +kernel
theorem dX6_holdRow_2 : decode cX6_holdRow 2 = .ok (.putfield 22, 3) := by decide +kernel
theorem dX6_holdRow_5 : decode cX6_holdRow 5 = .ok (.aload_n 0, 1) := by decide +kernel
theorem dX6_holdRow_6 : decode cX6_holdRow 6 = .ok (.iload_n 1, 1) := by decide +kernel
theorem dX6_holdRow_7 : decode cX6_holdRow 7 = .ok (.putfield 15, 3) := by decide +kernel
theorem dX6_holdRow_10 : decode cX6_holdRow 10 = .ok (.aload_n 0, 1) := by decide +kernel
theorem dX6_holdRow_11 : decode cX6_holdRow 11 = .ok (.iconst 0, 1) := by decide +kernel
theorem dX6_holdRow_12 : decode cX6_holdRow 12 = .ok (.iload_n 2, 1) := by decide +kernel
theorem dX6_holdRow_13 : decode cX6_holdRow 13 = .ok (.aload_n 0, 1) := by decide +kernel
theorem dX6_holdRow_14 : decode cX6_holdRow 14 = .ok (.getfield 9, 3) := by decide +kernel
theorem dX6_holdRow_17 : decode cX6_holdRow 17 = .ok (.arraylength, 1) := by decide +kernel
theorem dX6_holdRow_18 : decode cX6_holdRow 18 = .ok (.invokestatic 25, 3) := by decide +kernel
theorem dX6_holdRow_21 : decode cX6_holdRow 21 = .ok (.invokestatic 31, 3) := by decide +kernel
theorem dX6_holdRow_24 : decode cX6_holdRow 24 = .ok (.putfield 19, 3) := by decide +kernel
theorem dX6_holdRow_27 : decode cX6_holdRow 27 = .ok (.aload_n 0, 1) := by decide +kernel
theorem dX6_holdRow_28 : decode cX6_holdRow 28 = .ok (.getfield 9, 3) := by decide +kernel
theorem dX6_holdRow_31 : decode cX6_holdRow 31 = .ok (.lconst 0, 1) := by decide +kernel
theorem dX6_holdRow_32 : decode cX6_holdRow 32 = .ok (.invokestatic 34, 3) := by decide +kernel
theorem dX6_holdRow_35 : decode cX6_holdRow 35 = .ok (.return_, 1) := by decide +kernel
theorem dX6_holdWay_0 : decode cX6_holdWay 0 = .ok (.aload_n 0, 1) := by decide +kernel
theorem dX6_holdWay_1 : decode cX6_holdWay 1 = .ok (.iload_n 1, 1) := by decide +kernel
theorem dX6_holdWay_2 : decode cX6_holdWay 2 = .ok (.putfield 22, 3) := by decide +kernel
theorem dX6_holdWay_5 : decode cX6_holdWay 5 = .ok (.aload_n 0, 1) := by decide +kernel
theorem dX6_holdWay_6 : decode cX6_holdWay 6 = .ok (.iconst (-1), 1) := by decide +kernel
theorem dX6_holdWay_7 : decode cX6_holdWay 7 = .ok (.putfield 15, 3) := by decide +kernel
theorem dX6_holdWay_10 : decode cX6_holdWay 10 = .ok (.aload_n 0, 1) := by decide +kernel
theorem dX6_holdWay_11 : decode cX6_holdWay 11 = .ok (.iconst 0, 1) := by decide +kernel
theorem dX6_holdWay_12 : decode cX6_holdWay 12 = .ok (.putfield 19, 3) := by decide +kernel
theorem dX6_holdWay_15 : decode cX6_holdWay 15 = .ok (.return_, 1) := by decide +kernel
theorem dX6_holdsRow_0 : decode cX6_holdsRow 0 = .ok (.aload_n 0, 1) := by decide +kernel
theorem dX6_holdsRow_1 : decode cX6_holdsRow 1 = .ok (.getfield 15, 3) := by decide +kernel
theorem dX6_holdsRow_4 : decode cX6_holdsRow 4 = .ok (.iconst (-1), 1) := by decide +kernel
theorem dX6_holdsRow_5 : decode cX6_holdsRow 5 = .ok (.if_icmp .eq 7, 3) := by decide +kernel
theorem dX6_holdsRow_8 : decode cX6_holdsRow 8 = .ok (.iconst 1, 1) := by decide +kernel
theorem dX6_holdsRow_9 : decode cX6_holdsRow 9 = .ok (.goto 4, 3) := by decide +kernel
theorem dX6_holdsRow_12 : decode cX6_holdsRow 12 = .ok (.iconst 0, 1) := by decide +kernel
theorem dX6_holdsRow_13 : decode cX6_holdsRow 13 = .ok (.ireturn, 1) := by decide +kernel
theorem dX6_holdsWay_0 : decode cX6_holdsWay 0 = .ok (.aload_n 0, 1) := by decide +kernel
theorem dX6_holdsWay_1 : decode cX6_holdsWay 1 = .ok (.getfield 22, 3) := by decide +kernel
theorem dX6_holdsWay_4 : decode cX6_holdsWay 4 = .ok (.iconst (-1), 1) := by decide +kernel
theorem dX6_holdsWay_5 : decode cX6_holdsWay 5 = .ok (.if_icmp .eq 7, 3) := by decide +kernel
theorem dX6_holdsWay_8 : decode cX6_holdsWay 8 = .ok (.iconst 1, 1) := by decide +kernel
theorem dX6_holdsWay_9 : decode cX6_holdsWay 9 = .ok (.goto 4, 3) := by decide +kernel
theorem dX6_holdsWay_12 : decode cX6_holdsWay 12 = .ok (.iconst 0, 1) := by decide +kernel
theorem dX6_holdsWay_13 : decode cX6_holdsWay 13 = .ok (.ireturn, 1) := by decide +kernel
theorem dX6_isOfOtherSort_0 : decode cX6_isOfOtherSort 0 = .ok (.aload_n 0, 1) := by decide +kernel
theorem dX6_isOfOtherSort_1 : decode cX6_isOfOtherSort 1 = .ok (.invokevirtual 40, 3) := by decide +kernel
theorem dX6_isOfOtherSort_4 : decode cX6_isOfOtherSort 4 = .ok (.ifCond .eq 25, 3) := by decide +kernel
theorem dX6_isOfOtherSort_7 : decode cX6_isOfOtherSort 7 = .ok (.aload_n 1, 1) := by decide +kernel
theorem dX6_isOfOtherSort_8 : decode cX6_isOfOtherSort 8 = .ok (.invokevirtual 40, 3) := by decide +kernel
theorem dX6_isOfOtherSort_11 : decode cX6_isOfOtherSort 11 = .ok (.ifCond .eq 18, 3) := by decide +kernel
theorem dX6_isOfOtherSort_14 : decode cX6_isOfOtherSort 14 = .ok (.aload_n 0, 1) := by decide +kernel
theorem dX6_isOfOtherSort_15 : decode cX6_isOfOtherSort 15 = .ok (.getfield 15, 3) := by decide +kernel
theorem dX6_isOfOtherSort_18 : decode cX6_isOfOtherSort 18 = .ok (.aload_n 1, 1) := by decide +kernel
theorem dX6_isOfOtherSort_19 : decode cX6_isOfOtherSort 19 = .ok (.getfield 15, 3) := by decide +kernel
theorem dX6_isOfOtherSort_22 : decode cX6_isOfOtherSort 22 = .ok (.if_icmp .eq 7, 3) := by decide +kernel
theorem dX6_isOfOtherSort_25 : decode cX6_isOfOtherSort 25 = .ok (.iconst 1, 1) := by decide +kernel
theorem dX6_isOfOtherSort_26 : decode cX6_isOfOtherSort 26 = .ok (.goto 4, 3) := by decide +kernel
theorem dX6_isOfOtherSort_29 : decode cX6_isOfOtherSort 29 = .ok (.iconst 0, 1) := by decide +kernel
theorem dX6_isOfOtherSort_30 : decode cX6_isOfOtherSort 30 = .ok (.ireturn, 1) := by decide +kernel
theorem dX6_sortHeld_0 : decode cX6_sortHeld 0 = .ok (.aload_n 0, 1) := by decide +kernel
theorem dX6_sortHeld_1 : decode cX6_sortHeld 1 = .ok (.getfield 15, 3) := by decide +kernel
theorem dX6_sortHeld_4 : decode cX6_sortHeld 4 = .ok (.ireturn, 1) := by decide +kernel
theorem dX6_size_0 : decode cX6_size 0 = .ok (.aload_n 0, 1) := by decide +kernel
theorem dX6_size_1 : decode cX6_size 1 = .ok (.getfield 19, 3) := by decide +kernel
theorem dX6_size_4 : decode cX6_size 4 = .ok (.ireturn, 1) := by decide +kernel
theorem dX6_wayHeld_0 : decode cX6_wayHeld 0 = .ok (.aload_n 0, 1) := by decide +kernel
theorem dX6_wayHeld_1 : decode cX6_wayHeld 1 = .ok (.getfield 22, 3) := by decide +kernel
theorem dX6_wayHeld_4 : decode cX6_wayHeld 4 = .ok (.ireturn, 1) := by decide +kernel
theorem dX6_hasRun_0 : decode cX6_hasRun 0 = .ok (.iload_n 1, 1) := by decide +kernel
theorem dX6_hasRun_1 : decode cX6_hasRun 1 = .ok (.ifCond .lt 21, 3) := by decide +kernel
theorem dX6_hasRun_4 : decode cX6_hasRun 4 = .ok (.iload_n 2, 1) := by decide +kernel
theorem dX6_hasRun_5 : decode cX6_hasRun 5 = .ok (.ifCond .lt 17, 3) := by decide +kernel
theorem dX6_hasRun_8 : decode cX6_hasRun 8 = .ok (.iload_n 1, 1) := by decide +kernel
theorem dX6_hasRun_9 : decode cX6_hasRun 9 = .ok (.aload_n 0, 1) := by decide +kernel
theorem dX6_hasRun_10 : decode cX6_hasRun 10 = .ok (.getfield 19, 3) := by decide +kernel
theorem dX6_hasRun_13 : decode cX6_hasRun 13 = .ok (.iload_n 2, 1) := by decide +kernel
theorem dX6_hasRun_14 : decode cX6_hasRun 14 = .ok (.isub, 1) := by decide +kernel
theorem dX6_hasRun_15 : decode cX6_hasRun 15 = .ok (.if_icmp .gt 7, 3) := by decide +kernel
theorem dX6_hasRun_18 : decode cX6_hasRun 18 = .ok (.iconst 1, 1) := by decide +kernel
theorem dX6_hasRun_19 : decode cX6_hasRun 19 = .ok (.goto 4, 3) := by decide +kernel
theorem dX6_hasRun_22 : decode cX6_hasRun 22 = .ok (.iconst 0, 1) := by decide +kernel
theorem dX6_hasRun_23 : decode cX6_hasRun 23 = .ok (.ireturn, 1) := by decide +kernel
theorem dX6_put_0 : decode cX6_put 0 = .ok (.aload_n 0, 1) := by decide +kernel
theorem dX6_put_1 : decode cX6_put 1 = .ok (.iload_n 1, 1) := by decide +kernel
theorem dX6_put_2 : decode cX6_put 2 = .ok (.iconst 1, 1) := by decide +kernel
theorem dX6_put_3 : decode cX6_put 3 = .ok (.invokevirtual 44, 3) := by decide +kernel
theorem dX6_put_6 : decode cX6_put 6 = .ok (.ifCond .eq 14, 3) := by decide +kernel
theorem dX6_put_9 : decode cX6_put 9 = .ok (.aload_n 0, 1) := by decide +kernel
theorem dX6_put_10 : decode cX6_put 10 = .ok (.getfield 9, 3) := by decide +kernel
theorem dX6_put_13 : decode cX6_put 13 = .ok (.iload_n 1, 1) := by decide +kernel
theorem dX6_put_14 : decode cX6_put 14 = .ok (.aload_n 0, 1) := by decide +kernel
theorem dX6_put_15 : decode cX6_put 15 = .ok (.lload_n 2, 1) := by decide +kernel
theorem dX6_put_16 : decode cX6_put 16 = .ok (.invokevirtual 48, 3) := by decide +kernel
theorem dX6_put_19 : decode cX6_put 19 = .ok (.lastore, 1) := by decide +kernel
theorem dX6_put_20 : decode cX6_put 20 = .ok (.return_, 1) := by decide +kernel
theorem dX6_lowestBits_0 : decode cX6_lowestBits 0 = .ok (.aload_n 0, 1) := by decide +kernel
theorem dX6_lowestBits_1 : decode cX6_lowestBits 1 = .ok (.getfield 15, 3) := by decide +kernel
theorem dX6_lowestBits_4 : decode cX6_lowestBits 4 = .ok (.tableswitch 42 0 2 #[28, 33, 38], 28) := by decide +kernel
theorem dX6_lowestBits_32 : decode cX6_lowestBits 32 = .ok (.lload_n 1, 1) := by decide +kernel
theorem dX6_lowestBits_33 : decode cX6_lowestBits 33 = .ok (.l2i, 1) := by decide +kernel
theorem dX6_lowestBits_34 : decode cX6_lowestBits 34 = .ok (.i2b, 1) := by decide +kernel
theorem dX6_lowestBits_35 : decode cX6_lowestBits 35 = .ok (.i2l, 1) := by decide +kernel
theorem dX6_lowestBits_36 : decode cX6_lowestBits 36 = .ok (.lreturn, 1) := by decide +kernel
theorem dX6_lowestBits_37 : decode cX6_lowestBits 37 = .ok (.lload_n 1, 1) := by decide +kernel
theorem dX6_lowestBits_38 : decode cX6_lowestBits 38 = .ok (.l2i, 1) := by decide +kernel
theorem dX6_lowestBits_39 : decode cX6_lowestBits 39 = .ok (.i2s, 1) := by decide +kernel
theorem dX6_lowestBits_40 : decode cX6_lowestBits 40 = .ok (.i2l, 1) := by decide +kernel
theorem dX6_lowestBits_41 : decode cX6_lowestBits 41 = .ok (.lreturn, 1) := by decide +kernel
theorem dX6_lowestBits_42 : decode cX6_lowestBits 42 = .ok (.lload_n 1, 1) := by decide +kernel
theorem dX6_lowestBits_43 : decode cX6_lowestBits 43 = .ok (.l2i, 1) := by decide +kernel
theorem dX6_lowestBits_44 : decode cX6_lowestBits 44 = .ok (.i2l, 1) := by decide +kernel
theorem dX6_lowestBits_45 : decode cX6_lowestBits 45 = .ok (.lreturn, 1) := by decide +kernel
theorem dX6_lowestBits_46 : decode cX6_lowestBits 46 = .ok (.lload_n 1, 1) := by decide +kernel
theorem dX6_lowestBits_47 : decode cX6_lowestBits 47 = .ok (.lreturn, 1) := by decide +kernel
theorem dX6_takeRun_0 : decode cX6_takeRun 0 = .ok (.aload_n 1, 1) := by decide +kernel
theorem dX6_takeRun_1 : decode cX6_takeRun 1 = .ok (.iload_n 2, 1) := by decide +kernel
theorem dX6_takeRun_2 : decode cX6_takeRun 2 = .ok (.iload 4, 2) := by decide +kernel
theorem dX6_takeRun_4 : decode cX6_takeRun 4 = .ok (.invokevirtual 44, 3) := by decide +kernel
theorem dX6_takeRun_7 : decode cX6_takeRun 7 = .ok (.ifCond .eq 28, 3) := by decide +kernel
theorem dX6_takeRun_10 : decode cX6_takeRun 10 = .ok (.aload_n 0, 1) := by decide +kernel
theorem dX6_takeRun_11 : decode cX6_takeRun 11 = .ok (.iload_n 3, 1) := by decide +kernel
theorem dX6_takeRun_12 : decode cX6_takeRun 12 = .ok (.iload 4, 2) := by decide +kernel
theorem dX6_takeRun_14 : decode cX6_takeRun 14 = .ok (.invokevirtual 44, 3) := by decide +kernel
theorem dX6_takeRun_17 : decode cX6_takeRun 17 = .ok (.ifCond .eq 18, 3) := by decide +kernel
theorem dX6_takeRun_20 : decode cX6_takeRun 20 = .ok (.aload_n 1, 1) := by decide +kernel
theorem dX6_takeRun_21 : decode cX6_takeRun 21 = .ok (.getfield 9, 3) := by decide +kernel
theorem dX6_takeRun_24 : decode cX6_takeRun 24 = .ok (.iload_n 2, 1) := by decide +kernel
theorem dX6_takeRun_25 : decode cX6_takeRun 25 = .ok (.aload_n 0, 1) := by decide +kernel
theorem dX6_takeRun_26 : decode cX6_takeRun 26 = .ok (.getfield 9, 3) := by decide +kernel
theorem dX6_takeRun_29 : decode cX6_takeRun 29 = .ok (.iload_n 3, 1) := by decide +kernel
theorem dX6_takeRun_30 : decode cX6_takeRun 30 = .ok (.iload 4, 2) := by decide +kernel
theorem dX6_takeRun_32 : decode cX6_takeRun 32 = .ok (.invokestatic 52, 3) := by decide +kernel
theorem dX6_takeRun_35 : decode cX6_takeRun 35 = .ok (.return_, 1) := by decide +kernel
theorem dX6_longAt_0 : decode cX6_longAt 0 = .ok (.aload_n 0, 1) := by decide +kernel
theorem dX6_longAt_1 : decode cX6_longAt 1 = .ok (.iload_n 1, 1) := by decide +kernel
theorem dX6_longAt_2 : decode cX6_longAt 2 = .ok (.iconst 1, 1) := by decide +kernel
theorem dX6_longAt_3 : decode cX6_longAt 3 = .ok (.invokevirtual 44, 3) := by decide +kernel
theorem dX6_longAt_6 : decode cX6_longAt 6 = .ok (.ifCond .eq 12, 3) := by decide +kernel
theorem dX6_longAt_9 : decode cX6_longAt 9 = .ok (.aload_n 0, 1) := by decide +kernel
theorem dX6_longAt_10 : decode cX6_longAt 10 = .ok (.getfield 9, 3) := by decide +kernel
theorem dX6_longAt_13 : decode cX6_longAt 13 = .ok (.iload_n 1, 1) := by decide +kernel
theorem dX6_longAt_14 : decode cX6_longAt 14 = .ok (.laload, 1) := by decide +kernel
theorem dX6_longAt_15 : decode cX6_longAt 15 = .ok (.goto 4, 3) := by decide +kernel
theorem dX6_longAt_18 : decode cX6_longAt 18 = .ok (.lconst 0, 1) := by decide +kernel
theorem dX6_longAt_19 : decode cX6_longAt 19 = .ok (.lreturn, 1) := by decide +kernel
theorem dX6_intAt_0 : decode cX6_intAt 0 = .ok (.aload_n 0, 1) := by decide +kernel
theorem dX6_intAt_1 : decode cX6_intAt 1 = .ok (.iload_n 1, 1) := by decide +kernel
theorem dX6_intAt_2 : decode cX6_intAt 2 = .ok (.invokevirtual 58, 3) := by decide +kernel
theorem dX6_intAt_5 : decode cX6_intAt 5 = .ok (.l2i, 1) := by decide +kernel
theorem dX6_intAt_6 : decode cX6_intAt 6 = .ok (.ireturn, 1) := by decide +kernel
theorem dX7_init_0 : decode cX7_init 0 = .ok (.aload_n 0, 1) := by decide +kernel
theorem dX7_init_1 : decode cX7_init 1 = .ok (.iload_n 1, 1) := by decide +kernel
theorem dX7_init_2 : decode cX7_init 2 = .ok (.iload_n 2, 1) := by decide +kernel
theorem dX7_init_3 : decode cX7_init 3 = .ok (.iload_n 3, 1) := by decide +kernel
theorem dX7_init_4 : decode cX7_init 4 = .ok (.aload 4, 2) := by decide +kernel
theorem dX7_init_6 : decode cX7_init 6 = .ok (.invokespecial 3, 3) := by decide +kernel
theorem dX7_init_9 : decode cX7_init 9 = .ok (.return_, 1) := by decide +kernel
theorem dX7_tenths_0 : decode cX7_tenths 0 = .ok (.aload_n 0, 1) := by decide +kernel
theorem dX7_tenths_1 : decode cX7_tenths 1 = .ok (.getfield 9, 3) := by decide +kernel
theorem dX7_tenths_4 : decode cX7_tenths 4 = .ok (.bipush 11, 2) := by decide +kernel
theorem dX7_tenths_6 : decode cX7_tenths 6 = .ok (.irem, 1) := by decide +kernel
theorem dX7_tenths_7 : decode cX7_tenths 7 = .ok (.ireturn, 1) := by decide +kernel
theorem dX7_shown_0 : decode cX7_shown 0 = .ok (.aload_n 0, 1) := by decide +kernel
theorem dX7_shown_1 : decode cX7_shown 1 = .ok (.invokevirtual 15, 3) := by decide +kernel
theorem dX7_shown_4 : decode cX7_shown 4 = .ok (.istore 4, 2) := by decide +kernel
theorem dX7_shown_6 : decode cX7_shown 6 = .ok (.aload_n 0, 1) := by decide +kernel
theorem dX7_shown_7 : decode cX7_shown 7 = .ok (.aload_n 1, 1) := by decide +kernel
theorem dX7_shown_8 : decode cX7_shown 8 = .ok (.iload_n 2, 1) := by decide +kernel
theorem dX7_shown_9 : decode cX7_shown 9 = .ok (.iload_n 3, 1) := by decide +kernel
theorem dX7_shown_10 : decode cX7_shown 10 = .ok (.invokevirtual 19, 3) := by decide +kernel
theorem dX7_shown_13 : decode cX7_shown 13 = .ok (.istore 5, 2) := by decide +kernel
theorem dX7_shown_15 : decode cX7_shown 15 = .ok (.iload 4, 2) := by decide +kernel
theorem dX7_shown_17 : decode cX7_shown 17 = .ok (.iload 5, 2) := by decide +kernel
theorem dX7_shown_19 : decode cX7_shown 19 = .ok (.imul, 1) := by decide +kernel
theorem dX7_shown_20 : decode cX7_shown 20 = .ok (.bipush 10, 2) := by decide +kernel
theorem dX7_shown_22 : decode cX7_shown 22 = .ok (.iload 4, 2) := by decide +kernel
theorem dX7_shown_24 : decode cX7_shown 24 = .ok (.isub, 1) := by decide +kernel
theorem dX7_shown_25 : decode cX7_shown 25 = .ok (.bipush 10, 2) := by decide +kernel
theorem dX7_shown_27 : decode cX7_shown 27 = .ok (.imul, 1) := by decide +kernel
theorem dX7_shown_28 : decode cX7_shown 28 = .ok (.aload_n 1, 1) := by decide +kernel
theorem dX7_shown_29 : decode cX7_shown 29 = .ok (.iload_n 3, 1) := by decide +kernel
theorem dX7_shown_30 : decode cX7_shown 30 = .ok (.bipush 6, 2) := by decide +kernel
theorem dX7_shown_32 : decode cX7_shown 32 = .ok (.invokevirtual 23, 3) := by decide +kernel
theorem dX7_shown_35 : decode cX7_shown 35 = .ok (.imul, 1) := by decide +kernel
theorem dX7_shown_36 : decode cX7_shown 36 = .ok (.iadd, 1) := by decide +kernel
theorem dX7_shown_37 : decode cX7_shown 37 = .ok (.bipush 10, 2) := by decide +kernel
theorem dX7_shown_39 : decode cX7_shown 39 = .ok (.idiv, 1) := by decide +kernel
theorem dX7_shown_40 : decode cX7_shown 40 = .ok (.ireturn, 1) := by decide +kernel
theorem dX7_feels_0 : decode cX7_feels 0 = .ok (.aload_n 0, 1) := by decide +kernel
theorem dX7_feels_1 : decode cX7_feels 1 = .ok (.getfield 29, 3) := by decide +kernel
theorem dX7_feels_4 : decode cX7_feels 4 = .ok (.bipush 20, 2) := by decide +kernel
theorem dX7_feels_6 : decode cX7_feels 6 = .ok (.invokevirtual 33, 3) := by decide +kernel
theorem dX7_feels_9 : decode cX7_feels 9 = .ok (.aload_n 0, 1) := by decide +kernel
theorem dX7_feels_10 : decode cX7_feels 10 = .ok (.iload_n 1, 1) := by decide +kernel
theorem dX7_feels_11 : decode cX7_feels 11 = .ok (.invokespecial 39, 3) := by decide +kernel
theorem dX7_feels_14 : decode cX7_feels 14 = .ok (.aload_n 0, 1) := by decide +kernel
theorem dX7_feels_15 : decode cX7_feels 15 = .ok (.getfield 9, 3) := by decide +kernel
theorem dX7_feels_18 : decode cX7_feels 18 = .ok (.iadd, 1) := by decide +kernel
theorem dX7_feels_19 : decode cX7_feels 19 = .ok (.ireturn, 1) := by decide +kernel
theorem dX8_init_0 : decode cX8_init 0 = .ok (.aload_n 0, 1) := by decide +kernel
theorem dX8_init_1 : decode cX8_init 1 = .ok (.invokespecial 3, 3) := by decide +kernel
theorem dX8_init_4 : decode cX8_init 4 = .ok (.aload_n 0, 1) := by decide +kernel
theorem dX8_init_5 : decode cX8_init 5 = .ok (.bipush 20, 2) := by decide +kernel
theorem dX8_init_7 : decode cX8_init 7 = .ok (.newarray .int, 2) := by decide +kernel
theorem dX8_init_9 : decode cX8_init 9 = .ok (.putfield 9, 3) := by decide +kernel
theorem dX8_init_12 : decode cX8_init 12 = .ok (.aload_n 0, 1) := by decide +kernel
theorem dX8_init_13 : decode cX8_init 13 = .ok (.iconst 0, 1) := by decide +kernel
theorem dX8_init_14 : decode cX8_init 14 = .ok (.putfield 15, 3) := by decide +kernel
theorem dX8_init_17 : decode cX8_init 17 = .ok (.return_, 1) := by decide +kernel
theorem dX8_begin_0 : decode cX8_begin 0 = .ok (.aload_n 0, 1) := by decide +kernel
theorem dX8_begin_1 : decode cX8_begin 1 = .ok (.iconst 0, 1) := by decide +kernel
theorem dX8_begin_2 : decode cX8_begin 2 = .ok (.putfield 15, 3) := by decide +kernel
theorem dX8_begin_5 : decode cX8_begin 5 = .ok (.return_, 1) := by decide +kernel
theorem dX8_began_0 : decode cX8_began 0 = .ok (.aload_n 0, 1) := by decide +kernel
theorem dX8_began_1 : decode cX8_began 1 = .ok (.getfield 15, 3) := by decide +kernel
theorem dX8_began_4 : decode cX8_began 4 = .ok (.ifCond .lt 25, 3) := by decide +kernel
theorem dX8_began_7 : decode cX8_began 7 = .ok (.aload_n 0, 1) := by decide +kernel
theorem dX8_began_8 : decode cX8_began 8 = .ok (.getfield 15, 3) := by decide +kernel
theorem dX8_began_11 : decode cX8_began 11 = .ok (.aload_n 0, 1) := by decide +kernel
theorem dX8_began_12 : decode cX8_began 12 = .ok (.getfield 9, 3) := by decide +kernel
theorem dX8_began_15 : decode cX8_began 15 = .ok (.arraylength, 1) := by decide +kernel
theorem dX8_began_16 : decode cX8_began 16 = .ok (.if_icmp .ge 13, 3) := by decide +kernel
theorem dX8_began_19 : decode cX8_began 19 = .ok (.aload_n 0, 1) := by decide +kernel
theorem dX8_began_20 : decode cX8_began 20 = .ok (.getfield 9, 3) := by decide +kernel
theorem dX8_began_23 : decode cX8_began 23 = .ok (.aload_n 0, 1) := by decide +kernel
theorem dX8_began_24 : decode cX8_began 24 = .ok (.getfield 15, 3) := by decide +kernel
theorem dX8_began_27 : decode cX8_began 27 = .ok (.iload_n 1, 1) := by decide +kernel
theorem dX8_began_28 : decode cX8_began 28 = .ok (.iastore, 1) := by decide +kernel
theorem dX8_began_29 : decode cX8_began 29 = .ok (.aload_n 0, 1) := by decide +kernel
theorem dX8_began_30 : decode cX8_began 30 = .ok (.dup, 1) := by decide +kernel
theorem dX8_began_31 : decode cX8_began 31 = .ok (.getfield 15, 3) := by decide +kernel
theorem dX8_began_34 : decode cX8_began 34 = .ok (.iconst 1, 1) := by decide +kernel
theorem dX8_began_35 : decode cX8_began 35 = .ok (.iadd, 1) := by decide +kernel
theorem dX8_began_36 : decode cX8_began 36 = .ok (.putfield 15, 3) := by decide +kernel
theorem dX8_began_39 : decode cX8_began 39 = .ok (.return_, 1) := by decide +kernel
theorem dX8_ran_0 : decode cX8_ran 0 = .ok (.aload_n 0, 1) := by decide +kernel
theorem dX8_ran_1 : decode cX8_ran 1 = .ok (.getfield 15, 3) := by decide +kernel
theorem dX8_ran_4 : decode cX8_ran 4 = .ok (.ireturn, 1) := by decide +kernel
theorem dX8_bodyAt_0 : decode cX8_bodyAt 0 = .ok (.iload_n 1, 1) := by decide +kernel
theorem dX8_bodyAt_1 : decode cX8_bodyAt 1 = .ok (.ifCond .lt 20, 3) := by decide +kernel
theorem dX8_bodyAt_4 : decode cX8_bodyAt 4 = .ok (.iload_n 1, 1) := by decide +kernel
theorem dX8_bodyAt_5 : decode cX8_bodyAt 5 = .ok (.aload_n 0, 1) := by decide +kernel
theorem dX8_bodyAt_6 : decode cX8_bodyAt 6 = .ok (.getfield 15, 3) := by decide +kernel
theorem dX8_bodyAt_9 : decode cX8_bodyAt 9 = .ok (.if_icmp .ge 12, 3) := by decide +kernel
theorem dX8_bodyAt_12 : decode cX8_bodyAt 12 = .ok (.iload_n 1, 1) := by decide +kernel
theorem dX8_bodyAt_13 : decode cX8_bodyAt 13 = .ok (.aload_n 0, 1) := by decide +kernel
theorem dX8_bodyAt_14 : decode cX8_bodyAt 14 = .ok (.getfield 9, 3) := by decide +kernel
theorem dX8_bodyAt_17 : decode cX8_bodyAt 17 = .ok (.arraylength, 1) := by decide +kernel
theorem dX8_bodyAt_18 : decode cX8_bodyAt 18 = .ok (.if_icmp .lt 7, 3) := by decide +kernel
theorem dX8_bodyAt_21 : decode cX8_bodyAt 21 = .ok (.iconst (-1), 1) := by decide +kernel
theorem dX8_bodyAt_22 : decode cX8_bodyAt 22 = .ok (.goto 9, 3) := by decide +kernel
theorem dX8_bodyAt_25 : decode cX8_bodyAt 25 = .ok (.aload_n 0, 1) := by decide +kernel
theorem dX8_bodyAt_26 : decode cX8_bodyAt 26 = .ok (.getfield 9, 3) := by decide +kernel
theorem dX8_bodyAt_29 : decode cX8_bodyAt 29 = .ok (.iload_n 1, 1) := by decide +kernel
theorem dX8_bodyAt_30 : decode cX8_bodyAt 30 = .ok (.iaload, 1) := by decide +kernel
theorem dX8_bodyAt_31 : decode cX8_bodyAt 31 = .ok (.ireturn, 1) := by decide +kernel
theorem dX9_init_0 : decode cX9_init 0 = .ok (.aload_n 0, 1) := by decide +kernel
theorem dX9_init_1 : decode cX9_init 1 = .ok (.invokespecial 3, 3) := by decide +kernel
theorem dX9_init_4 : decode cX9_init 4 = .ok (.aload_n 0, 1) := by decide +kernel
theorem dX9_init_5 : decode cX9_init 5 = .ok (.iload_n 1, 1) := by decide +kernel
theorem dX9_init_6 : decode cX9_init 6 = .ok (.putfield 9, 3) := by decide +kernel
theorem dX9_init_9 : decode cX9_init 9 = .ok (.aload_n 0, 1) := by decide +kernel
theorem dX9_init_10 : decode cX9_init 10 = .ok (.iload_n 2, 1) := by decide +kernel
theorem dX9_init_11 : decode cX9_init 11 = .ok (.putfield 15, 3) := by decide +kernel
theorem dX9_init_14 : decode cX9_init 14 = .ok (.aload_n 0, 1) := by decide +kernel
theorem dX9_init_15 : decode cX9_init 15 = .ok (.iload_n 3, 1) := by decide +kernel
theorem dX9_init_16 : decode cX9_init 16 = .ok (.putfield 18, 3) := by decide +kernel
theorem dX9_init_19 : decode cX9_init 19 = .ok (.aload_n 0, 1) := by decide +kernel
theorem dX9_init_20 : decode cX9_init 20 = .ok (.aload 4, 2) := by decide +kernel
theorem dX9_init_22 : decode cX9_init 22 = .ok (.putfield 21, 3) := by decide +kernel
theorem dX9_init_25 : decode cX9_init 25 = .ok (.return_, 1) := by decide +kernel
theorem dX9_shown_0 : decode cX9_shown 0 = .ok (.aload_n 0, 1) := by decide +kernel
theorem dX9_shown_1 : decode cX9_shown 1 = .ok (.aload_n 1, 1) := by decide +kernel
theorem dX9_shown_2 : decode cX9_shown 2 = .ok (.iload_n 2, 1) := by decide +kernel
theorem dX9_shown_3 : decode cX9_shown 3 = .ok (.iload_n 3, 1) := by decide +kernel
theorem dX9_shown_4 : decode cX9_shown 4 = .ok (.invokevirtual 25, 3) := by decide +kernel
theorem dX9_shown_7 : decode cX9_shown 7 = .ok (.ireturn, 1) := by decide +kernel
theorem dX9_firstFeeling_0 : decode cX9_firstFeeling 0 = .ok (.bipush 30, 2) := by decide +kernel
theorem dX9_firstFeeling_2 : decode cX9_firstFeeling 2 = .ok (.aload_n 1, 1) := by decide +kernel
theorem dX9_firstFeeling_3 : decode cX9_firstFeeling 3 = .ok (.iload_n 3, 1) := by decide +kernel
theorem dX9_firstFeeling_4 : decode cX9_firstFeeling 4 = .ok (.iconst 3, 1) := by decide +kernel
theorem dX9_firstFeeling_5 : decode cX9_firstFeeling 5 = .ok (.invokevirtual 29, 3) := by decide +kernel
theorem dX9_firstFeeling_8 : decode cX9_firstFeeling 8 = .ok (.imul, 1) := by decide +kernel
theorem dX9_firstFeeling_9 : decode cX9_firstFeeling 9 = .ok (.aload_n 1, 1) := by decide +kernel
theorem dX9_firstFeeling_10 : decode cX9_firstFeeling 10 = .ok (.iload_n 2, 1) := by decide +kernel
theorem dX9_firstFeeling_11 : decode cX9_firstFeeling 11 = .ok (.iload_n 3, 1) := by decide +kernel
theorem dX9_firstFeeling_12 : decode cX9_firstFeeling 12 = .ok (.invokevirtual 35, 3) := by decide +kernel
theorem dX9_firstFeeling_15 : decode cX9_firstFeeling 15 = .ok (.iadd, 1) := by decide +kernel
theorem dX9_firstFeeling_16 : decode cX9_firstFeeling 16 = .ok (.ireturn, 1) := by decide +kernel
theorem dX9_feels_0 : decode cX9_feels 0 = .ok (.aload_n 0, 1) := by decide +kernel
theorem dX9_feels_1 : decode cX9_feels 1 = .ok (.getfield 21, 3) := by decide +kernel
theorem dX9_feels_4 : decode cX9_feels 4 = .ok (.bipush 10, 2) := by decide +kernel
theorem dX9_feels_6 : decode cX9_feels 6 = .ok (.invokevirtual 38, 3) := by decide +kernel
theorem dX9_feels_9 : decode cX9_feels 9 = .ok (.iload_n 1, 1) := by decide +kernel
theorem dX9_feels_10 : decode cX9_feels 10 = .ok (.aload_n 0, 1) := by decide +kernel
theorem dX9_feels_11 : decode cX9_feels 11 = .ok (.getfield 15, 3) := by decide +kernel
theorem dX9_feels_14 : decode cX9_feels 14 = .ok (.iadd, 1) := by decide +kernel
theorem dX9_feels_15 : decode cX9_feels 15 = .ok (.ireturn, 1) := by decide +kernel
theorem dX9_asks_0 : decode cX9_asks 0 = .ok (.aload_n 0, 1) := by decide +kernel
theorem dX9_asks_1 : decode cX9_asks 1 = .ok (.getfield 21, 3) := by decide +kernel
theorem dX9_asks_4 : decode cX9_asks 4 = .ok (.bipush 11, 2) := by decide +kernel
theorem dX9_asks_6 : decode cX9_asks 6 = .ok (.invokevirtual 38, 3) := by decide +kernel
theorem dX9_asks_9 : decode cX9_asks 9 = .ok (.aload_n 0, 1) := by decide +kernel
theorem dX9_asks_10 : decode cX9_asks 10 = .ok (.iload_n 1, 1) := by decide +kernel
theorem dX9_asks_11 : decode cX9_asks 11 = .ok (.invokevirtual 44, 3) := by decide +kernel
theorem dX9_asks_14 : decode cX9_asks 14 = .ok (.iconst 2, 1) := by decide +kernel
theorem dX9_asks_15 : decode cX9_asks 15 = .ok (.imul, 1) := by decide +kernel
theorem dX9_asks_16 : decode cX9_asks 16 = .ok (.ireturn, 1) := by decide +kernel
theorem dX9_sums_0 : decode cX9_sums 0 = .ok (.aload_n 0, 1) := by decide +kernel
theorem dX9_sums_1 : decode cX9_sums 1 = .ok (.getfield 21, 3) := by decide +kernel
theorem dX9_sums_4 : decode cX9_sums 4 = .ok (.bipush 12, 2) := by decide +kernel
theorem dX9_sums_6 : decode cX9_sums 6 = .ok (.invokevirtual 38, 3) := by decide +kernel
theorem dX9_sums_9 : decode cX9_sums 9 = .ok (.aload_n 0, 1) := by decide +kernel
theorem dX9_sums_10 : decode cX9_sums 10 = .ok (.iload_n 1, 1) := by decide +kernel
theorem dX9_sums_11 : decode cX9_sums 11 = .ok (.invokevirtual 48, 3) := by decide +kernel
theorem dX9_sums_14 : decode cX9_sums 14 = .ok (.aload_n 0, 1) := by decide +kernel
theorem dX9_sums_15 : decode cX9_sums 15 = .ok (.iload_n 1, 1) := by decide +kernel
theorem dX9_sums_16 : decode cX9_sums 16 = .ok (.aload_n 0, 1) := by decide +kernel
theorem dX9_sums_17 : decode cX9_sums 17 = .ok (.getfield 18, 3) := by decide +kernel
theorem dX9_sums_20 : decode cX9_sums 20 = .ok (.isub, 1) := by decide +kernel
theorem dX9_sums_21 : decode cX9_sums 21 = .ok (.invokevirtual 44, 3) := by decide +kernel
theorem dX9_sums_24 : decode cX9_sums 24 = .ok (.ixor, 1) := by decide +kernel
theorem dX9_sums_25 : decode cX9_sums 25 = .ok (.ireturn, 1) := by decide +kernel
theorem dX10_init_0 : decode cX10_init 0 = .ok (.aload_n 0, 1) := by decide +kernel
theorem dX10_init_1 : decode cX10_init 1 = .ok (.iload_n 1, 1) := by decide +kernel
theorem dX10_init_2 : decode cX10_init 2 = .ok (.iload_n 2, 1) := by decide +kernel
theorem dX10_init_3 : decode cX10_init 3 = .ok (.iload_n 3, 1) := by decide +kernel
theorem dX10_init_4 : decode cX10_init 4 = .ok (.aload 4, 2) := by decide +kernel
theorem dX10_init_6 : decode cX10_init 6 = .ok (.invokespecial 3, 3) := by decide +kernel
theorem dX10_init_9 : decode cX10_init 9 = .ok (.return_, 1) := by decide +kernel
theorem dX10_line_0 : decode cX10_line 0 = .ok (.aload_n 0, 1) := by decide +kernel
theorem dX10_line_1 : decode cX10_line 1 = .ok (.getfield 9, 3) := by decide +kernel
theorem dX10_line_4 : decode cX10_line 4 = .ok (.iconst 3, 1) := by decide +kernel
theorem dX10_line_5 : decode cX10_line 5 = .ok (.irem, 1) := by decide +kernel
theorem dX10_line_6 : decode cX10_line 6 = .ok (.ireturn, 1) := by decide +kernel
theorem dX10_shown_0 : decode cX10_shown 0 = .ok (.bipush 30, 2) := by decide +kernel
theorem dX10_shown_2 : decode cX10_shown 2 = .ok (.aload_n 1, 1) := by decide +kernel
theorem dX10_shown_3 : decode cX10_shown 3 = .ok (.iload_n 3, 1) := by decide +kernel
theorem dX10_shown_4 : decode cX10_shown 4 = .ok (.aload_n 0, 1) := by decide +kernel
theorem dX10_shown_5 : decode cX10_shown 5 = .ok (.invokevirtual 15, 3) := by decide +kernel
theorem dX10_shown_8 : decode cX10_shown 8 = .ok (.invokevirtual 19, 3) := by decide +kernel
theorem dX10_shown_11 : decode cX10_shown 11 = .ok (.imul, 1) := by decide +kernel
theorem dX10_shown_12 : decode cX10_shown 12 = .ok (.ireturn, 1) := by decide +kernel
theorem dX10_asks_0 : decode cX10_asks 0 = .ok (.aload_n 0, 1) := by decide +kernel
theorem dX10_asks_1 : decode cX10_asks 1 = .ok (.getfield 25, 3) := by decide +kernel
theorem dX10_asks_4 : decode cX10_asks 4 = .ok (.bipush 40, 2) := by decide +kernel
theorem dX10_asks_6 : decode cX10_asks 6 = .ok (.invokevirtual 29, 3) := by decide +kernel
theorem dX10_asks_9 : decode cX10_asks 9 = .ok (.aload_n 0, 1) := by decide +kernel
theorem dX10_asks_10 : decode cX10_asks 10 = .ok (.iload_n 1, 1) := by decide +kernel
theorem dX10_asks_11 : decode cX10_asks 11 = .ok (.iconst 1, 1) := by decide +kernel
theorem dX10_asks_12 : decode cX10_asks 12 = .ok (.iadd, 1) := by decide +kernel
theorem dX10_asks_13 : decode cX10_asks 13 = .ok (.invokespecial 35, 3) := by decide +kernel
theorem dX10_asks_16 : decode cX10_asks 16 = .ok (.ireturn, 1) := by decide +kernel
theorem dX10_sums_0 : decode cX10_sums 0 = .ok (.aload_n 0, 1) := by decide +kernel
theorem dX10_sums_1 : decode cX10_sums 1 = .ok (.getfield 25, 3) := by decide +kernel
theorem dX10_sums_4 : decode cX10_sums 4 = .ok (.bipush 41, 2) := by decide +kernel
theorem dX10_sums_6 : decode cX10_sums 6 = .ok (.invokevirtual 29, 3) := by decide +kernel
theorem dX10_sums_9 : decode cX10_sums 9 = .ok (.aload_n 0, 1) := by decide +kernel
theorem dX10_sums_10 : decode cX10_sums 10 = .ok (.iload_n 1, 1) := by decide +kernel
theorem dX10_sums_11 : decode cX10_sums 11 = .ok (.invokespecial 39, 3) := by decide +kernel
theorem dX10_sums_14 : decode cX10_sums 14 = .ok (.aload_n 0, 1) := by decide +kernel
theorem dX10_sums_15 : decode cX10_sums 15 = .ok (.getfield 42, 3) := by decide +kernel
theorem dX10_sums_18 : decode cX10_sums 18 = .ok (.isub, 1) := by decide +kernel
theorem dX10_sums_19 : decode cX10_sums 19 = .ok (.ireturn, 1) := by decide +kernel
theorem dX11_init_0 : decode cX11_init 0 = .ok (.aload_n 0, 1) := by decide +kernel
theorem dX11_init_1 : decode cX11_init 1 = .ok (.invokespecial 1, 3) := by decide +kernel
theorem dX11_init_4 : decode cX11_init 4 = .ok (.aload_n 0, 1) := by decide +kernel
theorem dX11_init_5 : decode cX11_init 5 = .ok (.bipush 8, 2) := by decide +kernel
theorem dX11_init_7 : decode cX11_init 7 = .ok (.anewarray 9, 3) := by decide +kernel
theorem dX11_init_10 : decode cX11_init 10 = .ok (.putfield 11, 3) := by decide +kernel
theorem dX11_init_13 : decode cX11_init 13 = .ok (.iconst 0, 1) := by decide +kernel
theorem dX11_init_14 : decode cX11_init 14 = .ok (.istore_n 1, 1) := by decide +kernel
theorem dX11_init_15 : decode cX11_init 15 = .ok (.iload_n 1, 1) := by decide +kernel
theorem dX11_init_16 : decode cX11_init 16 = .ok (.aload_n 0, 1) := by decide +kernel
theorem dX11_init_17 : decode cX11_init 17 = .ok (.getfield 11, 3) := by decide +kernel
theorem dX11_init_20 : decode cX11_init 20 = .ok (.arraylength, 1) := by decide +kernel
theorem dX11_init_21 : decode cX11_init 21 = .ok (.if_icmp .ge 22, 3) := by decide +kernel
theorem dX11_init_24 : decode cX11_init 24 = .ok (.aload_n 0, 1) := by decide +kernel
theorem dX11_init_25 : decode cX11_init 25 = .ok (.getfield 11, 3) := by decide +kernel
theorem dX11_init_28 : decode cX11_init 28 = .ok (.iload_n 1, 1) := by decide +kernel
theorem dX11_init_29 : decode cX11_init 29 = .ok (.new 9, 3) := by decide +kernel
theorem dX11_init_32 : decode cX11_init 32 = .ok (.dup, 1) := by decide +kernel
theorem dX11_init_33 : decode cX11_init 33 = .ok (.invokespecial 15, 3) := by decide +kernel
theorem dX11_init_36 : decode cX11_init 36 = .ok (.aastore, 1) := by decide +kernel
theorem dX11_init_37 : decode cX11_init 37 = .ok (.iinc 1 1, 3) := by decide +kernel
theorem dX11_init_40 : decode cX11_init 40 = .ok (.goto (-25), 3) := by decide +kernel
theorem dX11_init_43 : decode cX11_init 43 = .ok (.aload_n 0, 1) := by decide +kernel
theorem dX11_init_44 : decode cX11_init 44 = .ok (.new 16, 3) := by decide +kernel
theorem dX11_init_47 : decode cX11_init 47 = .ok (.dup, 1) := by decide +kernel
theorem dX11_init_48 : decode cX11_init 48 = .ok (.invokespecial 18, 3) := by decide +kernel
theorem dX11_init_51 : decode cX11_init 51 = .ok (.putfield 19, 3) := by decide +kernel
theorem dX11_init_54 : decode cX11_init 54 = .ok (.aload_n 0, 1) := by decide +kernel
theorem dX11_init_55 : decode cX11_init 55 = .ok (.new 23, 3) := by decide +kernel
theorem dX11_init_58 : decode cX11_init 58 = .ok (.dup, 1) := by decide +kernel
theorem dX11_init_59 : decode cX11_init 59 = .ok (.aload_n 0, 1) := by decide +kernel
theorem dX11_init_60 : decode cX11_init 60 = .ok (.getfield 19, 3) := by decide +kernel
theorem dX11_init_63 : decode cX11_init 63 = .ok (.invokespecial 25, 3) := by decide +kernel
theorem dX11_init_66 : decode cX11_init 66 = .ok (.putfield 28, 3) := by decide +kernel
theorem dX11_init_69 : decode cX11_init 69 = .ok (.aload_n 0, 1) := by decide +kernel
theorem dX11_init_70 : decode cX11_init 70 = .ok (.new 23, 3) := by decide +kernel
theorem dX11_init_73 : decode cX11_init 73 = .ok (.dup, 1) := by decide +kernel
theorem dX11_init_74 : decode cX11_init 74 = .ok (.aload_n 0, 1) := by decide +kernel
theorem dX11_init_75 : decode cX11_init 75 = .ok (.getfield 19, 3) := by decide +kernel
theorem dX11_init_78 : decode cX11_init 78 = .ok (.invokespecial 25, 3) := by decide +kernel
theorem dX11_init_81 : decode cX11_init 81 = .ok (.putfield 32, 3) := by decide +kernel
theorem dX11_init_84 : decode cX11_init 84 = .ok (.aload_n 0, 1) := by decide +kernel
theorem dX11_init_85 : decode cX11_init 85 = .ok (.new 35, 3) := by decide +kernel
theorem dX11_init_88 : decode cX11_init 88 = .ok (.dup, 1) := by decide +kernel
theorem dX11_init_89 : decode cX11_init 89 = .ok (.new 23, 3) := by decide +kernel
theorem dX11_init_92 : decode cX11_init 92 = .ok (.dup, 1) := by decide +kernel
theorem dX11_init_93 : decode cX11_init 93 = .ok (.aload_n 0, 1) := by decide +kernel
theorem dX11_init_94 : decode cX11_init 94 = .ok (.getfield 19, 3) := by decide +kernel
theorem dX11_init_97 : decode cX11_init 97 = .ok (.invokespecial 25, 3) := by decide +kernel
theorem dX11_init_100 : decode cX11_init 100 = .ok (.invokespecial 37, 3) := by decide +kernel
theorem dX11_init_103 : decode cX11_init 103 = .ok (.putfield 40, 3) := by decide +kernel
theorem dX11_init_106 : decode cX11_init 106 = .ok (.aload_n 0, 1) := by decide +kernel
theorem dX11_init_107 : decode cX11_init 107 = .ok (.bipush 8, 2) := by decide +kernel
theorem dX11_init_109 : decode cX11_init 109 = .ok (.newarray .int, 2) := by decide +kernel
theorem dX11_init_111 : decode cX11_init 111 = .ok (.putfield 44, 3) := by decide +kernel
theorem dX11_init_114 : decode cX11_init 114 = .ok (.aload_n 0, 1) := by decide +kernel
theorem dX11_init_115 : decode cX11_init 115 = .ok (.bipush 6, 2) := by decide +kernel
theorem dX11_init_117 : decode cX11_init 117 = .ok (.newarray .int, 2) := by decide +kernel
theorem dX11_init_119 : decode cX11_init 119 = .ok (.putfield 48, 3) := by decide +kernel
theorem dX11_init_122 : decode cX11_init 122 = .ok (.aload_n 0, 1) := by decide +kernel
theorem dX11_init_123 : decode cX11_init 123 = .ok (.iconst 0, 1) := by decide +kernel
theorem dX11_init_124 : decode cX11_init 124 = .ok (.putfield 51, 3) := by decide +kernel
theorem dX11_init_127 : decode cX11_init 127 = .ok (.aload_n 0, 1) := by decide +kernel
theorem dX11_init_128 : decode cX11_init 128 = .ok (.iconst (-1), 1) := by decide +kernel
theorem dX11_init_129 : decode cX11_init 129 = .ok (.putfield 55, 3) := by decide +kernel
theorem dX11_init_132 : decode cX11_init 132 = .ok (.return_, 1) := by decide +kernel
theorem dX11_row_0 : decode cX11_row 0 = .ok (.aload_n 0, 1) := by decide +kernel
theorem dX11_row_1 : decode cX11_row 1 = .ok (.iload_n 1, 1) := by decide +kernel
theorem dX11_row_2 : decode cX11_row 2 = .ok (.invokevirtual 59, 3) := by decide +kernel
theorem dX11_row_5 : decode cX11_row 5 = .ok (.astore 4, 2) := by decide +kernel
theorem dX11_row_7 : decode cX11_row 7 = .ok (.aload 4, 2) := by decide +kernel
theorem dX11_row_9 : decode cX11_row 9 = .ok (.ifnonnull 9, 3) := by decide +kernel
theorem dX11_row_12 : decode cX11_row 12 = .ok (.aload_n 0, 1) := by decide +kernel
theorem dX11_row_13 : decode cX11_row 13 = .ok (.iconst 1, 1) := by decide +kernel
theorem dX11_row_14 : decode cX11_row 14 = .ok (.invokevirtual 63, 3) := by decide +kernel
theorem dX11_row_17 : decode cX11_row 17 = .ok (.ireturn, 1) := by decide +kernel
theorem dX11_row_18 : decode cX11_row 18 = .ok (.iload_n 3, 1) := by decide +kernel
theorem dX11_row_19 : decode cX11_row 19 = .ok (.ifCond .ge 9, 3) := by decide +kernel
theorem dX11_row_22 : decode cX11_row 22 = .ok (.aload_n 0, 1) := by decide +kernel
theorem dX11_row_23 : decode cX11_row 23 = .ok (.iconst 4, 1) := by decide +kernel
theorem dX11_row_24 : decode cX11_row 24 = .ok (.invokevirtual 63, 3) := by decide +kernel
theorem dX11_row_27 : decode cX11_row 27 = .ok (.ireturn, 1) := by decide +kernel
theorem dX11_row_28 : decode cX11_row 28 = .ok (.iload_n 2, 1) := by decide +kernel
theorem dX11_row_29 : decode cX11_row 29 = .ok (.ifCond .lt 8, 3) := by decide +kernel
theorem dX11_row_32 : decode cX11_row 32 = .ok (.iload_n 2, 1) := by decide +kernel
theorem dX11_row_33 : decode cX11_row 33 = .ok (.iconst 3, 1) := by decide +kernel
theorem dX11_row_34 : decode cX11_row 34 = .ok (.if_icmp .le 10, 3) := by decide +kernel
theorem dX11_row_37 : decode cX11_row 37 = .ok (.aload_n 0, 1) := by decide +kernel
theorem dX11_row_38 : decode cX11_row 38 = .ok (.bipush 6, 2) := by decide +kernel
theorem dX11_row_40 : decode cX11_row 40 = .ok (.invokevirtual 63, 3) := by decide +kernel
theorem dX11_row_43 : decode cX11_row 43 = .ok (.ireturn, 1) := by decide +kernel
theorem dX11_row_44 : decode cX11_row 44 = .ok (.iload_n 3, 1) := by decide +kernel
theorem dX11_row_45 : decode cX11_row 45 = .ok (.sipush 160, 3) := by decide +kernel
theorem dX11_row_48 : decode cX11_row 48 = .ok (.if_icmp .le 10, 3) := by decide +kernel
theorem dX11_row_51 : decode cX11_row 51 = .ok (.aload_n 0, 1) := by decide +kernel
theorem dX11_row_52 : decode cX11_row 52 = .ok (.bipush 7, 2) := by decide +kernel
theorem dX11_row_54 : decode cX11_row 54 = .ok (.invokevirtual 63, 3) := by decide +kernel
theorem dX11_row_57 : decode cX11_row 57 = .ok (.ireturn, 1) := by decide +kernel
theorem dX11_row_58 : decode cX11_row 58 = .ok (.aload 4, 2) := by decide +kernel
theorem dX11_row_60 : decode cX11_row 60 = .ok (.iload_n 2, 1) := by decide +kernel
theorem dX11_row_61 : decode cX11_row 61 = .ok (.iload_n 3, 1) := by decide +kernel
theorem dX11_row_62 : decode cX11_row 62 = .ok (.invokevirtual 67, 3) := by decide +kernel
theorem dX11_row_65 : decode cX11_row 65 = .ok (.iconst 1, 1) := by decide +kernel
theorem dX11_row_66 : decode cX11_row 66 = .ok (.ireturn, 1) := by decide +kernel
theorem dX11_set_0 : decode cX11_set 0 = .ok (.aload_n 0, 1) := by decide +kernel
theorem dX11_set_1 : decode cX11_set 1 = .ok (.iload_n 1, 1) := by decide +kernel
theorem dX11_set_2 : decode cX11_set 2 = .ok (.invokevirtual 59, 3) := by decide +kernel
theorem dX11_set_5 : decode cX11_set 5 = .ok (.astore 5, 2) := by decide +kernel
theorem dX11_set_7 : decode cX11_set 7 = .ok (.aload 5, 2) := by decide +kernel
theorem dX11_set_9 : decode cX11_set 9 = .ok (.ifnull 11, 3) := by decide +kernel
theorem dX11_set_12 : decode cX11_set 12 = .ok (.aload 5, 2) := by decide +kernel
theorem dX11_set_14 : decode cX11_set 14 = .ok (.invokevirtual 71, 3) := by decide +kernel
theorem dX11_set_17 : decode cX11_set 17 = .ok (.ifCond .ne 13, 3) := by decide +kernel
theorem dX11_set_20 : decode cX11_set 20 = .ok (.aload_n 0, 1) := by decide +kernel
theorem dX11_set_21 : decode cX11_set 21 = .ok (.aload 5, 2) := by decide +kernel
theorem dX11_set_23 : decode cX11_set 23 = .ok (.invokestatic 75, 3) := by decide +kernel
theorem dX11_set_26 : decode cX11_set 26 = .ok (.invokevirtual 63, 3) := by decide +kernel
theorem dX11_set_29 : decode cX11_set 29 = .ok (.ireturn, 1) := by decide +kernel
theorem dX11_set_30 : decode cX11_set 30 = .ok (.aload 5, 2) := by decide +kernel
theorem dX11_set_32 : decode cX11_set 32 = .ok (.iload_n 2, 1) := by decide +kernel
theorem dX11_set_33 : decode cX11_set 33 = .ok (.iconst 1, 1) := by decide +kernel
theorem dX11_set_34 : decode cX11_set 34 = .ok (.invokevirtual 79, 3) := by decide +kernel
theorem dX11_set_37 : decode cX11_set 37 = .ok (.ifCond .ne 9, 3) := by decide +kernel
theorem dX11_set_40 : decode cX11_set 40 = .ok (.aload_n 0, 1) := by decide +kernel
theorem dX11_set_41 : decode cX11_set 41 = .ok (.iconst 5, 1) := by decide +kernel
theorem dX11_set_42 : decode cX11_set 42 = .ok (.invokevirtual 63, 3) := by decide +kernel
theorem dX11_set_45 : decode cX11_set 45 = .ok (.ireturn, 1) := by decide +kernel
theorem dX11_set_46 : decode cX11_set 46 = .ok (.aload 5, 2) := by decide +kernel
theorem dX11_set_48 : decode cX11_set 48 = .ok (.iload_n 2, 1) := by decide +kernel
theorem dX11_set_49 : decode cX11_set 49 = .ok (.lload_n 3, 1) := by decide +kernel
theorem dX11_set_50 : decode cX11_set 50 = .ok (.invokevirtual 83, 3) := by decide +kernel
theorem dX11_set_53 : decode cX11_set 53 = .ok (.iconst 1, 1) := by decide +kernel
theorem dX11_set_54 : decode cX11_set 54 = .ok (.ireturn, 1) := by decide +kernel
theorem dX11_copy_0 : decode cX11_copy 0 = .ok (.aload_n 0, 1) := by decide +kernel
theorem dX11_copy_1 : decode cX11_copy 1 = .ok (.iload_n 1, 1) := by decide +kernel
theorem dX11_copy_2 : decode cX11_copy 2 = .ok (.invokevirtual 59, 3) := by decide +kernel
theorem dX11_copy_5 : decode cX11_copy 5 = .ok (.astore 6, 2) := by decide +kernel
theorem dX11_copy_7 : decode cX11_copy 7 = .ok (.aload_n 0, 1) := by decide +kernel
theorem dX11_copy_8 : decode cX11_copy 8 = .ok (.iload_n 2, 1) := by decide +kernel
theorem dX11_copy_9 : decode cX11_copy 9 = .ok (.invokevirtual 59, 3) := by decide +kernel
theorem dX11_copy_12 : decode cX11_copy 12 = .ok (.astore 7, 2) := by decide +kernel
theorem dX11_copy_14 : decode cX11_copy 14 = .ok (.aload 6, 2) := by decide +kernel
theorem dX11_copy_16 : decode cX11_copy 16 = .ok (.ifnull 8, 3) := by decide +kernel
theorem dX11_copy_19 : decode cX11_copy 19 = .ok (.aload 7, 2) := by decide +kernel
theorem dX11_copy_21 : decode cX11_copy 21 = .ok (.ifnonnull 9, 3) := by decide +kernel
theorem dX11_copy_24 : decode cX11_copy 24 = .ok (.aload_n 0, 1) := by decide +kernel
theorem dX11_copy_25 : decode cX11_copy 25 = .ok (.iconst 1, 1) := by decide +kernel
theorem dX11_copy_26 : decode cX11_copy 26 = .ok (.invokevirtual 63, 3) := by decide +kernel
theorem dX11_copy_29 : decode cX11_copy 29 = .ok (.ireturn, 1) := by decide +kernel
theorem dX11_copy_30 : decode cX11_copy 30 = .ok (.aload 6, 2) := by decide +kernel
theorem dX11_copy_32 : decode cX11_copy 32 = .ok (.invokevirtual 87, 3) := by decide +kernel
theorem dX11_copy_35 : decode cX11_copy 35 = .ok (.ifCond .ne 21, 3) := by decide +kernel
theorem dX11_copy_38 : decode cX11_copy 38 = .ok (.aload 7, 2) := by decide +kernel
theorem dX11_copy_40 : decode cX11_copy 40 = .ok (.invokevirtual 87, 3) := by decide +kernel
theorem dX11_copy_43 : decode cX11_copy 43 = .ok (.ifCond .ne 13, 3) := by decide +kernel
theorem dX11_copy_46 : decode cX11_copy 46 = .ok (.aload 6, 2) := by decide +kernel
theorem dX11_copy_48 : decode cX11_copy 48 = .ok (.aload 7, 2) := by decide +kernel
theorem dX11_copy_50 : decode cX11_copy 50 = .ok (.invokevirtual 90, 3) := by decide +kernel
theorem dX11_copy_53 : decode cX11_copy 53 = .ok (.ifCond .eq 9, 3) := by decide +kernel
theorem dX11_copy_56 : decode cX11_copy 56 = .ok (.aload_n 0, 1) := by decide +kernel
theorem dX11_copy_57 : decode cX11_copy 57 = .ok (.iconst 2, 1) := by decide +kernel
theorem dX11_copy_58 : decode cX11_copy 58 = .ok (.invokevirtual 63, 3) := by decide +kernel
theorem dX11_copy_61 : decode cX11_copy 61 = .ok (.ireturn, 1) := by decide +kernel
theorem dX11_copy_62 : decode cX11_copy 62 = .ok (.aload 6, 2) := by decide +kernel
theorem dX11_copy_64 : decode cX11_copy 64 = .ok (.invokevirtual 71, 3) := by decide +kernel
theorem dX11_copy_67 : decode cX11_copy 67 = .ok (.ifCond .eq 11, 3) := by decide +kernel
theorem dX11_copy_70 : decode cX11_copy 70 = .ok (.aload 7, 2) := by decide +kernel
theorem dX11_copy_72 : decode cX11_copy 72 = .ok (.invokevirtual 71, 3) := by decide +kernel
theorem dX11_copy_75 : decode cX11_copy 75 = .ok (.ifCond .ne 9, 3) := by decide +kernel
theorem dX11_copy_78 : decode cX11_copy 78 = .ok (.aload_n 0, 1) := by decide +kernel
theorem dX11_copy_79 : decode cX11_copy 79 = .ok (.iconst 3, 1) := by decide +kernel
theorem dX11_copy_80 : decode cX11_copy 80 = .ok (.invokevirtual 63, 3) := by decide +kernel
theorem dX11_copy_83 : decode cX11_copy 83 = .ok (.ireturn, 1) := by decide +kernel
theorem dX11_copy_84 : decode cX11_copy 84 = .ok (.iload 5, 2) := by decide +kernel
theorem dX11_copy_86 : decode cX11_copy 86 = .ok (.ifCond .ge 9, 3) := by decide +kernel
theorem dX11_copy_89 : decode cX11_copy 89 = .ok (.aload_n 0, 1) := by decide +kernel
theorem dX11_copy_90 : decode cX11_copy 90 = .ok (.iconst 4, 1) := by decide +kernel
theorem dX11_copy_91 : decode cX11_copy 91 = .ok (.invokevirtual 63, 3) := by decide +kernel
theorem dX11_copy_94 : decode cX11_copy 94 = .ok (.ireturn, 1) := by decide +kernel
theorem dX11_copy_95 : decode cX11_copy 95 = .ok (.aload 6, 2) := by decide +kernel
theorem dX11_copy_97 : decode cX11_copy 97 = .ok (.iload_n 3, 1) := by decide +kernel
theorem dX11_copy_98 : decode cX11_copy 98 = .ok (.iload 5, 2) := by decide +kernel
theorem dX11_copy_100 : decode cX11_copy 100 = .ok (.invokevirtual 79, 3) := by decide +kernel
theorem dX11_copy_103 : decode cX11_copy 103 = .ok (.ifCond .eq 15, 3) := by decide +kernel
theorem dX11_copy_106 : decode cX11_copy 106 = .ok (.aload 7, 2) := by decide +kernel
theorem dX11_copy_108 : decode cX11_copy 108 = .ok (.iload 4, 2) := by decide +kernel
theorem dX11_copy_110 : decode cX11_copy 110 = .ok (.iload 5, 2) := by decide +kernel
theorem dX11_copy_112 : decode cX11_copy 112 = .ok (.invokevirtual 79, 3) := by decide +kernel
theorem dX11_copy_115 : decode cX11_copy 115 = .ok (.ifCond .ne 9, 3) := by decide +kernel
theorem dX11_copy_118 : decode cX11_copy 118 = .ok (.aload_n 0, 1) := by decide +kernel
theorem dX11_copy_119 : decode cX11_copy 119 = .ok (.iconst 5, 1) := by decide +kernel
theorem dX11_copy_120 : decode cX11_copy 120 = .ok (.invokevirtual 63, 3) := by decide +kernel
theorem dX11_copy_123 : decode cX11_copy 123 = .ok (.ireturn, 1) := by decide +kernel
theorem dX11_copy_124 : decode cX11_copy 124 = .ok (.aload 7, 2) := by decide +kernel
theorem dX11_copy_126 : decode cX11_copy 126 = .ok (.aload 6, 2) := by decide +kernel
theorem dX11_copy_128 : decode cX11_copy 128 = .ok (.iload_n 3, 1) := by decide +kernel
theorem dX11_copy_129 : decode cX11_copy 129 = .ok (.iload 4, 2) := by decide +kernel
theorem dX11_copy_131 : decode cX11_copy 131 = .ok (.iload 5, 2) := by decide +kernel
theorem dX11_copy_133 : decode cX11_copy 133 = .ok (.invokevirtual 94, 3) := by decide +kernel
theorem dX11_copy_136 : decode cX11_copy 136 = .ok (.iconst 1, 1) := by decide +kernel
theorem dX11_copy_137 : decode cX11_copy 137 = .ok (.ireturn, 1) := by decide +kernel
theorem dX11_element_0 : decode cX11_element 0 = .ok (.aload_n 0, 1) := by decide +kernel
theorem dX11_element_1 : decode cX11_element 1 = .ok (.iload_n 1, 1) := by decide +kernel
theorem dX11_element_2 : decode cX11_element 2 = .ok (.invokevirtual 59, 3) := by decide +kernel
theorem dX11_element_5 : decode cX11_element 5 = .ok (.astore_n 3, 1) := by decide +kernel
theorem dX11_element_6 : decode cX11_element 6 = .ok (.aload_n 3, 1) := by decide +kernel
theorem dX11_element_7 : decode cX11_element 7 = .ok (.ifnonnull 7, 3) := by decide +kernel
theorem dX11_element_10 : decode cX11_element 10 = .ok (.lconst 0, 1) := by decide +kernel
theorem dX11_element_11 : decode cX11_element 11 = .ok (.goto 8, 3) := by decide +kernel
theorem dX11_element_14 : decode cX11_element 14 = .ok (.aload_n 3, 1) := by decide +kernel
theorem dX11_element_15 : decode cX11_element 15 = .ok (.iload_n 2, 1) := by decide +kernel
theorem dX11_element_16 : decode cX11_element 16 = .ok (.invokevirtual 98, 3) := by decide +kernel
theorem dX11_element_19 : decode cX11_element 19 = .ok (.lreturn, 1) := by decide +kernel
theorem dX11_show_0 : decode cX11_show 0 = .ok (.aload_n 0, 1) := by decide +kernel
theorem dX11_show_1 : decode cX11_show 1 = .ok (.iload_n 1, 1) := by decide +kernel
theorem dX11_show_2 : decode cX11_show 2 = .ok (.invokevirtual 59, 3) := by decide +kernel
theorem dX11_show_5 : decode cX11_show 5 = .ok (.astore_n 3, 1) := by decide +kernel
theorem dX11_show_6 : decode cX11_show 6 = .ok (.aload_n 3, 1) := by decide +kernel
theorem dX11_show_7 : decode cX11_show 7 = .ok (.ifnull 19, 3) := by decide +kernel
theorem dX11_show_10 : decode cX11_show 10 = .ok (.iload_n 2, 1) := by decide +kernel
theorem dX11_show_11 : decode cX11_show 11 = .ok (.iconst (-1), 1) := by decide +kernel
theorem dX11_show_12 : decode cX11_show 12 = .ok (.if_icmp .eq 20, 3) := by decide +kernel
theorem dX11_show_15 : decode cX11_show 15 = .ok (.aload_n 0, 1) := by decide +kernel
theorem dX11_show_16 : decode cX11_show 16 = .ok (.getfield 28, 3) := by decide +kernel
theorem dX11_show_19 : decode cX11_show 19 = .ok (.iload_n 2, 1) := by decide +kernel
theorem dX11_show_20 : decode cX11_show 20 = .ok (.invokevirtual 102, 3) := by decide +kernel
theorem dX11_show_23 : decode cX11_show 23 = .ok (.ifnonnull 9, 3) := by decide +kernel
theorem dX11_show_26 : decode cX11_show 26 = .ok (.aload_n 0, 1) := by decide +kernel
theorem dX11_show_27 : decode cX11_show 27 = .ok (.iconst 1, 1) := by decide +kernel
theorem dX11_show_28 : decode cX11_show 28 = .ok (.invokevirtual 63, 3) := by decide +kernel
theorem dX11_show_31 : decode cX11_show 31 = .ok (.ireturn, 1) := by decide +kernel
theorem dX11_show_32 : decode cX11_show 32 = .ok (.aload_n 3, 1) := by decide +kernel
theorem dX11_show_33 : decode cX11_show 33 = .ok (.iload_n 2, 1) := by decide +kernel
theorem dX11_show_34 : decode cX11_show 34 = .ok (.invokevirtual 106, 3) := by decide +kernel
theorem dX11_show_37 : decode cX11_show 37 = .ok (.iload_n 2, 1) := by decide +kernel
theorem dX11_show_38 : decode cX11_show 38 = .ok (.iconst (-1), 1) := by decide +kernel
theorem dX11_show_39 : decode cX11_show 39 = .ok (.if_icmp .ne 7, 3) := by decide +kernel
theorem dX11_show_42 : decode cX11_show 42 = .ok (.iconst 0, 1) := by decide +kernel
theorem dX11_show_43 : decode cX11_show 43 = .ok (.goto 4, 3) := by decide +kernel
theorem dX11_show_46 : decode cX11_show 46 = .ok (.iconst 1, 1) := by decide +kernel
theorem dX11_show_47 : decode cX11_show 47 = .ok (.ireturn, 1) := by decide +kernel
theorem dX11_holds_0 : decode cX11_holds 0 = .ok (.aload_n 0, 1) := by decide +kernel
theorem dX11_holds_1 : decode cX11_holds 1 = .ok (.iload_n 1, 1) := by decide +kernel
theorem dX11_holds_2 : decode cX11_holds 2 = .ok (.invokevirtual 59, 3) := by decide +kernel
theorem dX11_holds_5 : decode cX11_holds 5 = .ok (.astore_n 2, 1) := by decide +kernel
theorem dX11_holds_6 : decode cX11_holds 6 = .ok (.aload_n 2, 1) := by decide +kernel
theorem dX11_holds_7 : decode cX11_holds 7 = .ok (.ifnonnull 5, 3) := by decide +kernel
theorem dX11_holds_10 : decode cX11_holds 10 = .ok (.iconst (-1), 1) := by decide +kernel
theorem dX11_holds_11 : decode cX11_holds 11 = .ok (.ireturn, 1) := by decide +kernel
theorem dX11_holds_12 : decode cX11_holds 12 = .ok (.aload_n 2, 1) := by decide +kernel
theorem dX11_holds_13 : decode cX11_holds 13 = .ok (.invokevirtual 71, 3) := by decide +kernel
theorem dX11_holds_16 : decode cX11_holds 16 = .ok (.ifCond .eq 13, 3) := by decide +kernel
theorem dX11_holds_19 : decode cX11_holds 19 = .ok (.bipush 100, 2) := by decide +kernel
theorem dX11_holds_21 : decode cX11_holds 21 = .ok (.aload_n 2, 1) := by decide +kernel
theorem dX11_holds_22 : decode cX11_holds 22 = .ok (.invokevirtual 110, 3) := by decide +kernel
theorem dX11_holds_25 : decode cX11_holds 25 = .ok (.iadd, 1) := by decide +kernel
theorem dX11_holds_26 : decode cX11_holds 26 = .ok (.goto 7, 3) := by decide +kernel
theorem dX11_holds_29 : decode cX11_holds 29 = .ok (.aload_n 2, 1) := by decide +kernel
theorem dX11_holds_30 : decode cX11_holds 30 = .ok (.invokevirtual 114, 3) := by decide +kernel
theorem dX11_holds_33 : decode cX11_holds 33 = .ok (.ireturn, 1) := by decide +kernel
theorem dX11_says_0 : decode cX11_says 0 = .ok (.aload_n 0, 1) := by decide +kernel
theorem dX11_says_1 : decode cX11_says 1 = .ok (.iload_n 1, 1) := by decide +kernel
theorem dX11_says_2 : decode cX11_says 2 = .ok (.invokevirtual 59, 3) := by decide +kernel
theorem dX11_says_5 : decode cX11_says 5 = .ok (.astore_n 3, 1) := by decide +kernel
theorem dX11_says_6 : decode cX11_says 6 = .ok (.aload_n 3, 1) := by decide +kernel
theorem dX11_says_7 : decode cX11_says 7 = .ok (.ifnull 13, 3) := by decide +kernel
theorem dX11_says_10 : decode cX11_says 10 = .ok (.iload_n 2, 1) := by decide +kernel
theorem dX11_says_11 : decode cX11_says 11 = .ok (.ifCond .lt 9, 3) := by decide +kernel
theorem dX11_says_14 : decode cX11_says 14 = .ok (.iload_n 2, 1) := by decide +kernel
theorem dX11_says_15 : decode cX11_says 15 = .ok (.bipush 6, 2) := by decide +kernel
theorem dX11_says_17 : decode cX11_says 17 = .ok (.if_icmp .le 9, 3) := by decide +kernel
theorem dX11_says_20 : decode cX11_says 20 = .ok (.aload_n 0, 1) := by decide +kernel
theorem dX11_says_21 : decode cX11_says 21 = .ok (.iconst 1, 1) := by decide +kernel
theorem dX11_says_22 : decode cX11_says 22 = .ok (.invokevirtual 63, 3) := by decide +kernel
theorem dX11_says_25 : decode cX11_says 25 = .ok (.ireturn, 1) := by decide +kernel
theorem dX11_says_26 : decode cX11_says 26 = .ok (.aload_n 3, 1) := by decide +kernel
theorem dX11_says_27 : decode cX11_says 27 = .ok (.invokevirtual 71, 3) := by decide +kernel
theorem dX11_says_30 : decode cX11_says 30 = .ok (.ifCond .eq 9, 3) := by decide +kernel
theorem dX11_says_33 : decode cX11_says 33 = .ok (.aload_n 0, 1) := by decide +kernel
theorem dX11_says_34 : decode cX11_says 34 = .ok (.iconst 2, 1) := by decide +kernel
theorem dX11_says_35 : decode cX11_says 35 = .ok (.invokevirtual 63, 3) := by decide +kernel
theorem dX11_says_38 : decode cX11_says 38 = .ok (.ireturn, 1) := by decide +kernel
theorem dX11_says_39 : decode cX11_says 39 = .ok (.aload_n 0, 1) := by decide +kernel
theorem dX11_says_40 : decode cX11_says 40 = .ok (.getfield 28, 3) := by decide +kernel
theorem dX11_says_43 : decode cX11_says 43 = .ok (.aload_n 3, 1) := by decide +kernel
theorem dX11_says_44 : decode cX11_says 44 = .ok (.invokevirtual 114, 3) := by decide +kernel
theorem dX11_says_47 : decode cX11_says 47 = .ok (.invokevirtual 102, 3) := by decide +kernel
theorem dX11_says_50 : decode cX11_says 50 = .ok (.astore 4, 2) := by decide +kernel
theorem dX11_says_52 : decode cX11_says 52 = .ok (.aload 4, 2) := by decide +kernel
theorem dX11_says_54 : decode cX11_says 54 = .ok (.ifnonnull 11, 3) := by decide +kernel
theorem dX11_says_57 : decode cX11_says 57 = .ok (.aload_n 0, 1) := by decide +kernel
theorem dX11_says_58 : decode cX11_says 58 = .ok (.iconst 3, 1) := by decide +kernel
theorem dX11_says_59 : decode cX11_says 59 = .ok (.invokevirtual 63, 3) := by decide +kernel
theorem dX11_says_62 : decode cX11_says 62 = .ok (.goto 10, 3) := by decide +kernel
theorem dX11_says_65 : decode cX11_says 65 = .ok (.aload_n 0, 1) := by decide +kernel
theorem dX11_says_66 : decode cX11_says 66 = .ok (.aload 4, 2) := by decide +kernel
theorem dX11_says_68 : decode cX11_says 68 = .ok (.iload_n 2, 1) := by decide +kernel
theorem dX11_says_69 : decode cX11_says 69 = .ok (.invokevirtual 117, 3) := by decide +kernel
theorem dX11_says_72 : decode cX11_says 72 = .ok (.ireturn, 1) := by decide +kernel
theorem dX11_comer_0 : decode cX11_comer 0 = .ok (.aload_n 0, 1) := by decide +kernel
theorem dX11_comer_1 : decode cX11_comer 1 = .ok (.iload_n 1, 1) := by decide +kernel
theorem dX11_comer_2 : decode cX11_comer 2 = .ok (.invokevirtual 59, 3) := by decide +kernel
theorem dX11_comer_5 : decode cX11_comer 5 = .ok (.astore_n 3, 1) := by decide +kernel
theorem dX11_comer_6 : decode cX11_comer 6 = .ok (.aload_n 3, 1) := by decide +kernel
theorem dX11_comer_7 : decode cX11_comer 7 = .ok (.ifnull 10, 3) := by decide +kernel
theorem dX11_comer_10 : decode cX11_comer 10 = .ok (.aload_n 3, 1) := by decide +kernel
theorem dX11_comer_11 : decode cX11_comer 11 = .ok (.invokevirtual 71, 3) := by decide +kernel
theorem dX11_comer_14 : decode cX11_comer 14 = .ok (.ifCond .ne 12, 3) := by decide +kernel
theorem dX11_comer_17 : decode cX11_comer 17 = .ok (.aload_n 0, 1) := by decide +kernel
theorem dX11_comer_18 : decode cX11_comer 18 = .ok (.aload_n 3, 1) := by decide +kernel
theorem dX11_comer_19 : decode cX11_comer 19 = .ok (.invokestatic 75, 3) := by decide +kernel
theorem dX11_comer_22 : decode cX11_comer 22 = .ok (.invokevirtual 63, 3) := by decide +kernel
theorem dX11_comer_25 : decode cX11_comer 25 = .ok (.ireturn, 1) := by decide +kernel
theorem dX11_comer_26 : decode cX11_comer 26 = .ok (.aload_n 3, 1) := by decide +kernel
theorem dX11_comer_27 : decode cX11_comer 27 = .ok (.iload_n 2, 1) := by decide +kernel
theorem dX11_comer_28 : decode cX11_comer 28 = .ok (.bipush 6, 2) := by decide +kernel
theorem dX11_comer_30 : decode cX11_comer 30 = .ok (.invokevirtual 79, 3) := by decide +kernel
theorem dX11_comer_33 : decode cX11_comer 33 = .ok (.ifCond .ne 9, 3) := by decide +kernel
theorem dX11_comer_36 : decode cX11_comer 36 = .ok (.aload_n 0, 1) := by decide +kernel
theorem dX11_comer_37 : decode cX11_comer 37 = .ok (.iconst 5, 1) := by decide +kernel
theorem dX11_comer_38 : decode cX11_comer 38 = .ok (.invokevirtual 63, 3) := by decide +kernel
theorem dX11_comer_41 : decode cX11_comer 41 = .ok (.ireturn, 1) := by decide +kernel
theorem dX11_comer_42 : decode cX11_comer 42 = .ok (.iconst 1, 1) := by decide +kernel
theorem dX11_comer_43 : decode cX11_comer 43 = .ok (.istore 4, 2) := by decide +kernel
theorem dX11_comer_45 : decode cX11_comer 45 = .ok (.iconst 0, 1) := by decide +kernel
theorem dX11_comer_46 : decode cX11_comer 46 = .ok (.istore 5, 2) := by decide +kernel
theorem dX11_comer_48 : decode cX11_comer 48 = .ok (.iload 5, 2) := by decide +kernel
theorem dX11_comer_50 : decode cX11_comer 50 = .ok (.bipush 6, 2) := by decide +kernel
theorem dX11_comer_52 : decode cX11_comer 52 = .ok (.if_icmp .ge 55, 3) := by decide +kernel
theorem dX11_comer_55 : decode cX11_comer 55 = .ok (.aload_n 0, 1) := by decide +kernel
theorem dX11_comer_56 : decode cX11_comer 56 = .ok (.getfield 48, 3) := by decide +kernel
theorem dX11_comer_59 : decode cX11_comer 59 = .ok (.iload 5, 2) := by decide +kernel
theorem dX11_comer_61 : decode cX11_comer 61 = .ok (.aload_n 3, 1) := by decide +kernel
theorem dX11_comer_62 : decode cX11_comer 62 = .ok (.iload_n 2, 1) := by decide +kernel
theorem dX11_comer_63 : decode cX11_comer 63 = .ok (.iload 5, 2) := by decide +kernel
theorem dX11_comer_65 : decode cX11_comer 65 = .ok (.iadd, 1) := by decide +kernel
theorem dX11_comer_66 : decode cX11_comer 66 = .ok (.invokevirtual 121, 3) := by decide +kernel
theorem dX11_comer_69 : decode cX11_comer 69 = .ok (.iastore, 1) := by decide +kernel
theorem dX11_comer_70 : decode cX11_comer 70 = .ok (.iload 4, 2) := by decide +kernel
theorem dX11_comer_72 : decode cX11_comer 72 = .ok (.ifCond .eq 26, 3) := by decide +kernel
theorem dX11_comer_75 : decode cX11_comer 75 = .ok (.aload_n 0, 1) := by decide +kernel
theorem dX11_comer_76 : decode cX11_comer 76 = .ok (.getfield 48, 3) := by decide +kernel
theorem dX11_comer_79 : decode cX11_comer 79 = .ok (.iload 5, 2) := by decide +kernel
theorem dX11_comer_81 : decode cX11_comer 81 = .ok (.iaload, 1) := by decide +kernel
theorem dX11_comer_82 : decode cX11_comer 82 = .ok (.getstatic 124, 3) := by decide +kernel
theorem dX11_comer_85 : decode cX11_comer 85 = .ok (.iload 5, 2) := by decide +kernel
theorem dX11_comer_87 : decode cX11_comer 87 = .ok (.iaload, 1) := by decide +kernel
theorem dX11_comer_88 : decode cX11_comer 88 = .ok (.invokestatic 127, 3) := by decide +kernel
theorem dX11_comer_91 : decode cX11_comer 91 = .ok (.ifCond .eq 7, 3) := by decide +kernel
theorem dX11_comer_94 : decode cX11_comer 94 = .ok (.iconst 1, 1) := by decide +kernel
theorem dX11_comer_95 : decode cX11_comer 95 = .ok (.goto 4, 3) := by decide +kernel
theorem dX11_comer_98 : decode cX11_comer 98 = .ok (.iconst 0, 1) := by decide +kernel
theorem dX11_comer_99 : decode cX11_comer 99 = .ok (.istore 4, 2) := by decide +kernel
theorem dX11_comer_101 : decode cX11_comer 101 = .ok (.iinc 5 1, 3) := by decide +kernel
theorem dX11_comer_104 : decode cX11_comer 104 = .ok (.goto (-56), 3) := by decide +kernel
theorem dX11_comer_107 : decode cX11_comer 107 = .ok (.iload 4, 2) := by decide +kernel
theorem dX11_comer_109 : decode cX11_comer 109 = .ok (.ifCond .ne 10, 3) := by decide +kernel
theorem dX11_comer_112 : decode cX11_comer 112 = .ok (.aload_n 0, 1) := by decide +kernel
theorem dX11_comer_113 : decode cX11_comer 113 = .ok (.bipush 6, 2) := by decide +kernel
theorem dX11_comer_115 : decode cX11_comer 115 = .ok (.invokevirtual 63, 3) := by decide +kernel
theorem dX11_comer_118 : decode cX11_comer 118 = .ok (.ireturn, 1) := by decide +kernel
theorem dX11_comer_119 : decode cX11_comer 119 = .ok (.aload_n 0, 1) := by decide +kernel
theorem dX11_comer_120 : decode cX11_comer 120 = .ok (.getfield 28, 3) := by decide +kernel
theorem dX11_comer_123 : decode cX11_comer 123 = .ok (.iconst 0, 1) := by decide +kernel
theorem dX11_comer_124 : decode cX11_comer 124 = .ok (.invokevirtual 130, 3) := by decide +kernel
theorem dX11_comer_127 : decode cX11_comer 127 = .ok (.ifCond .eq 17, 3) := by decide +kernel
theorem dX11_comer_130 : decode cX11_comer 130 = .ok (.aload_n 0, 1) := by decide +kernel
theorem dX11_comer_131 : decode cX11_comer 131 = .ok (.getfield 28, 3) := by decide +kernel
theorem dX11_comer_134 : decode cX11_comer 134 = .ok (.aload_n 0, 1) := by decide +kernel
theorem dX11_comer_135 : decode cX11_comer 135 = .ok (.getfield 48, 3) := by decide +kernel
theorem dX11_comer_138 : decode cX11_comer 138 = .ok (.invokevirtual 134, 3) := by decide +kernel
theorem dX11_comer_141 : decode cX11_comer 141 = .ok (.goto 9, 3) := by decide +kernel
theorem dX11_comer_144 : decode cX11_comer 144 = .ok (.aload_n 0, 1) := by decide +kernel
theorem dX11_comer_145 : decode cX11_comer 145 = .ok (.bipush 7, 2) := by decide +kernel
theorem dX11_comer_147 : decode cX11_comer 147 = .ok (.invokevirtual 63, 3) := by decide +kernel
theorem dX11_comer_150 : decode cX11_comer 150 = .ok (.ireturn, 1) := by decide +kernel
theorem dX11_asker_0 : decode cX11_asker 0 = .ok (.iload_n 1, 1) := by decide +kernel
theorem dX11_asker_1 : decode cX11_asker 1 = .ok (.getstatic 138, 3) := by decide +kernel
theorem dX11_asker_4 : decode cX11_asker 4 = .ok (.iconst 0, 1) := by decide +kernel
theorem dX11_asker_5 : decode cX11_asker 5 = .ok (.iaload, 1) := by decide +kernel
theorem dX11_asker_6 : decode cX11_asker 6 = .ok (.invokestatic 127, 3) := by decide +kernel
theorem dX11_asker_9 : decode cX11_asker 9 = .ok (.ifCond .eq 27, 3) := by decide +kernel
theorem dX11_asker_12 : decode cX11_asker 12 = .ok (.iload_n 2, 1) := by decide +kernel
theorem dX11_asker_13 : decode cX11_asker 13 = .ok (.getstatic 138, 3) := by decide +kernel
theorem dX11_asker_16 : decode cX11_asker 16 = .ok (.iconst 1, 1) := by decide +kernel
theorem dX11_asker_17 : decode cX11_asker 17 = .ok (.iaload, 1) := by decide +kernel
theorem dX11_asker_18 : decode cX11_asker 18 = .ok (.invokestatic 127, 3) := by decide +kernel
theorem dX11_asker_21 : decode cX11_asker 21 = .ok (.ifCond .eq 15, 3) := by decide +kernel
theorem dX11_asker_24 : decode cX11_asker 24 = .ok (.iload_n 3, 1) := by decide +kernel
theorem dX11_asker_25 : decode cX11_asker 25 = .ok (.getstatic 138, 3) := by decide +kernel
theorem dX11_asker_28 : decode cX11_asker 28 = .ok (.iconst 2, 1) := by decide +kernel
theorem dX11_asker_29 : decode cX11_asker 29 = .ok (.iaload, 1) := by decide +kernel
theorem dX11_asker_30 : decode cX11_asker 30 = .ok (.invokestatic 127, 3) := by decide +kernel
theorem dX11_asker_33 : decode cX11_asker 33 = .ok (.ifCond .ne 10, 3) := by decide +kernel
theorem dX11_asker_36 : decode cX11_asker 36 = .ok (.aload_n 0, 1) := by decide +kernel
theorem dX11_asker_37 : decode cX11_asker 37 = .ok (.bipush 6, 2) := by decide +kernel
theorem dX11_asker_39 : decode cX11_asker 39 = .ok (.invokevirtual 63, 3) := by decide +kernel
theorem dX11_asker_42 : decode cX11_asker 42 = .ok (.ireturn, 1) := by decide +kernel
theorem dX11_asker_43 : decode cX11_asker 43 = .ok (.aload_n 0, 1) := by decide +kernel
theorem dX11_asker_44 : decode cX11_asker 44 = .ok (.getfield 28, 3) := by decide +kernel
theorem dX11_asker_47 : decode cX11_asker 47 = .ok (.iconst 1, 1) := by decide +kernel
theorem dX11_asker_48 : decode cX11_asker 48 = .ok (.invokevirtual 130, 3) := by decide +kernel
theorem dX11_asker_51 : decode cX11_asker 51 = .ok (.ifCond .eq 16, 3) := by decide +kernel
theorem dX11_asker_54 : decode cX11_asker 54 = .ok (.aload_n 0, 1) := by decide +kernel
theorem dX11_asker_55 : decode cX11_asker 55 = .ok (.getfield 28, 3) := by decide +kernel
theorem dX11_asker_58 : decode cX11_asker 58 = .ok (.iload_n 1, 1) := by decide +kernel
theorem dX11_asker_59 : decode cX11_asker 59 = .ok (.iload_n 2, 1) := by decide +kernel
theorem dX11_asker_60 : decode cX11_asker 60 = .ok (.iload_n 3, 1) := by decide +kernel
theorem dX11_asker_61 : decode cX11_asker 61 = .ok (.invokevirtual 141, 3) := by decide +kernel
theorem dX11_asker_64 : decode cX11_asker 64 = .ok (.goto 9, 3) := by decide +kernel
theorem dX11_asker_67 : decode cX11_asker 67 = .ok (.aload_n 0, 1) := by decide +kernel
theorem dX11_asker_68 : decode cX11_asker 68 = .ok (.bipush 7, 2) := by decide +kernel
theorem dX11_asker_70 : decode cX11_asker 70 = .ok (.invokevirtual 63, 3) := by decide +kernel
theorem dX11_asker_73 : decode cX11_asker 73 = .ok (.ireturn, 1) := by decide +kernel
theorem dX11_way_0 : decode cX11_way 0 = .ok (.iload_n 1, 1) := by decide +kernel
theorem dX11_way_1 : decode cX11_way 1 = .ok (.getstatic 145, 3) := by decide +kernel
theorem dX11_way_4 : decode cX11_way 4 = .ok (.iconst 0, 1) := by decide +kernel
theorem dX11_way_5 : decode cX11_way 5 = .ok (.iaload, 1) := by decide +kernel
theorem dX11_way_6 : decode cX11_way 6 = .ok (.invokestatic 127, 3) := by decide +kernel
theorem dX11_way_9 : decode cX11_way 9 = .ok (.ifCond .ne 9, 3) := by decide +kernel
theorem dX11_way_12 : decode cX11_way 12 = .ok (.aload_n 0, 1) := by decide +kernel
theorem dX11_way_13 : decode cX11_way 13 = .ok (.iconst 1, 1) := by decide +kernel
theorem dX11_way_14 : decode cX11_way 14 = .ok (.invokevirtual 63, 3) := by decide +kernel
theorem dX11_way_17 : decode cX11_way 17 = .ok (.ireturn, 1) := by decide +kernel
theorem dX11_way_18 : decode cX11_way 18 = .ok (.iload_n 2, 1) := by decide +kernel
theorem dX11_way_19 : decode cX11_way 19 = .ok (.getstatic 145, 3) := by decide +kernel
theorem dX11_way_22 : decode cX11_way 22 = .ok (.iconst 1, 1) := by decide +kernel
theorem dX11_way_23 : decode cX11_way 23 = .ok (.iaload, 1) := by decide +kernel
theorem dX11_way_24 : decode cX11_way 24 = .ok (.invokestatic 127, 3) := by decide +kernel
theorem dX11_way_27 : decode cX11_way 27 = .ok (.ifCond .ne 10, 3) := by decide +kernel
theorem dX11_way_30 : decode cX11_way 30 = .ok (.aload_n 0, 1) := by decide +kernel
theorem dX11_way_31 : decode cX11_way 31 = .ok (.bipush 6, 2) := by decide +kernel
theorem dX11_way_33 : decode cX11_way 33 = .ok (.invokevirtual 63, 3) := by decide +kernel
theorem dX11_way_36 : decode cX11_way 36 = .ok (.ireturn, 1) := by decide +kernel
theorem dX11_way_37 : decode cX11_way 37 = .ok (.aload_n 0, 1) := by decide +kernel
theorem dX11_way_38 : decode cX11_way 38 = .ok (.getfield 28, 3) := by decide +kernel
theorem dX11_way_41 : decode cX11_way 41 = .ok (.iconst 2, 1) := by decide +kernel
theorem dX11_way_42 : decode cX11_way 42 = .ok (.invokevirtual 130, 3) := by decide +kernel
theorem dX11_way_45 : decode cX11_way 45 = .ok (.ifCond .eq 15, 3) := by decide +kernel
theorem dX11_way_48 : decode cX11_way 48 = .ok (.aload_n 0, 1) := by decide +kernel
theorem dX11_way_49 : decode cX11_way 49 = .ok (.getfield 28, 3) := by decide +kernel
theorem dX11_way_52 : decode cX11_way 52 = .ok (.iload_n 1, 1) := by decide +kernel
theorem dX11_way_53 : decode cX11_way 53 = .ok (.iload_n 2, 1) := by decide +kernel
theorem dX11_way_54 : decode cX11_way 54 = .ok (.invokevirtual 148, 3) := by decide +kernel
theorem dX11_way_57 : decode cX11_way 57 = .ok (.goto 9, 3) := by decide +kernel
theorem dX11_way_60 : decode cX11_way 60 = .ok (.aload_n 0, 1) := by decide +kernel
theorem dX11_way_61 : decode cX11_way 61 = .ok (.bipush 7, 2) := by decide +kernel
theorem dX11_way_63 : decode cX11_way 63 = .ok (.invokevirtual 63, 3) := by decide +kernel
theorem dX11_way_66 : decode cX11_way 66 = .ok (.ireturn, 1) := by decide +kernel
theorem dX11_comerOf_0 : decode cX11_comerOf 0 = .ok (.aload_n 0, 1) := by decide +kernel
theorem dX11_comerOf_1 : decode cX11_comerOf 1 = .ok (.getfield 28, 3) := by decide +kernel
theorem dX11_comerOf_4 : decode cX11_comerOf 4 = .ok (.iload_n 1, 1) := by decide +kernel
theorem dX11_comerOf_5 : decode cX11_comerOf 5 = .ok (.invokevirtual 152, 3) := by decide +kernel
theorem dX11_comerOf_8 : decode cX11_comerOf 8 = .ok (.ifCond .eq 13, 3) := by decide +kernel
theorem dX11_comerOf_11 : decode cX11_comerOf 11 = .ok (.iload_n 2, 1) := by decide +kernel
theorem dX11_comerOf_12 : decode cX11_comerOf 12 = .ok (.ifCond .lt 9, 3) := by decide +kernel
theorem dX11_comerOf_15 : decode cX11_comerOf 15 = .ok (.iload_n 2, 1) := by decide +kernel
theorem dX11_comerOf_16 : decode cX11_comerOf 16 = .ok (.bipush 6, 2) := by decide +kernel
theorem dX11_comerOf_18 : decode cX11_comerOf 18 = .ok (.if_icmp .le 9, 3) := by decide +kernel
theorem dX11_comerOf_21 : decode cX11_comerOf 21 = .ok (.aload_n 0, 1) := by decide +kernel
theorem dX11_comerOf_22 : decode cX11_comerOf 22 = .ok (.iconst 5, 1) := by decide +kernel
theorem dX11_comerOf_23 : decode cX11_comerOf 23 = .ok (.invokevirtual 63, 3) := by decide +kernel
theorem dX11_comerOf_26 : decode cX11_comerOf 26 = .ok (.ireturn, 1) := by decide +kernel
theorem dX11_comerOf_27 : decode cX11_comerOf 27 = .ok (.aload_n 0, 1) := by decide +kernel
theorem dX11_comerOf_28 : decode cX11_comerOf 28 = .ok (.getfield 28, 3) := by decide +kernel
theorem dX11_comerOf_31 : decode cX11_comerOf 31 = .ok (.iload_n 1, 1) := by decide +kernel
theorem dX11_comerOf_32 : decode cX11_comerOf 32 = .ok (.iload_n 2, 1) := by decide +kernel
theorem dX11_comerOf_33 : decode cX11_comerOf 33 = .ok (.invokevirtual 155, 3) := by decide +kernel
theorem dX11_comerOf_36 : decode cX11_comerOf 36 = .ok (.ireturn, 1) := by decide +kernel
theorem dX11_askerOf_0 : decode cX11_askerOf 0 = .ok (.aload_n 0, 1) := by decide +kernel
theorem dX11_askerOf_1 : decode cX11_askerOf 1 = .ok (.getfield 28, 3) := by decide +kernel
theorem dX11_askerOf_4 : decode cX11_askerOf 4 = .ok (.iload_n 1, 1) := by decide +kernel
theorem dX11_askerOf_5 : decode cX11_askerOf 5 = .ok (.invokevirtual 158, 3) := by decide +kernel
theorem dX11_askerOf_8 : decode cX11_askerOf 8 = .ok (.ifCond .eq 12, 3) := by decide +kernel
theorem dX11_askerOf_11 : decode cX11_askerOf 11 = .ok (.iload_n 2, 1) := by decide +kernel
theorem dX11_askerOf_12 : decode cX11_askerOf 12 = .ok (.ifCond .lt 8, 3) := by decide +kernel
theorem dX11_askerOf_15 : decode cX11_askerOf 15 = .ok (.iload_n 2, 1) := by decide +kernel
theorem dX11_askerOf_16 : decode cX11_askerOf 16 = .ok (.iconst 3, 1) := by decide +kernel
theorem dX11_askerOf_17 : decode cX11_askerOf 17 = .ok (.if_icmp .le 9, 3) := by decide +kernel
theorem dX11_askerOf_20 : decode cX11_askerOf 20 = .ok (.aload_n 0, 1) := by decide +kernel
theorem dX11_askerOf_21 : decode cX11_askerOf 21 = .ok (.iconst 5, 1) := by decide +kernel
theorem dX11_askerOf_22 : decode cX11_askerOf 22 = .ok (.invokevirtual 63, 3) := by decide +kernel
theorem dX11_askerOf_25 : decode cX11_askerOf 25 = .ok (.ireturn, 1) := by decide +kernel
theorem dX11_askerOf_26 : decode cX11_askerOf 26 = .ok (.iload_n 2, 1) := by decide +kernel
theorem dX11_askerOf_27 : decode cX11_askerOf 27 = .ok (.iconst 3, 1) := by decide +kernel
theorem dX11_askerOf_28 : decode cX11_askerOf 28 = .ok (.if_icmp .ne 14, 3) := by decide +kernel
theorem dX11_askerOf_31 : decode cX11_askerOf 31 = .ok (.aload_n 0, 1) := by decide +kernel
theorem dX11_askerOf_32 : decode cX11_askerOf 32 = .ok (.getfield 28, 3) := by decide +kernel
theorem dX11_askerOf_35 : decode cX11_askerOf 35 = .ok (.iload_n 1, 1) := by decide +kernel
theorem dX11_askerOf_36 : decode cX11_askerOf 36 = .ok (.invokevirtual 161, 3) := by decide +kernel
theorem dX11_askerOf_39 : decode cX11_askerOf 39 = .ok (.goto 12, 3) := by decide +kernel
theorem dX11_askerOf_42 : decode cX11_askerOf 42 = .ok (.aload_n 0, 1) := by decide +kernel
theorem dX11_askerOf_43 : decode cX11_askerOf 43 = .ok (.getfield 28, 3) := by decide +kernel
theorem dX11_askerOf_46 : decode cX11_askerOf 46 = .ok (.iload_n 1, 1) := by decide +kernel
theorem dX11_askerOf_47 : decode cX11_askerOf 47 = .ok (.iload_n 2, 1) := by decide +kernel
theorem dX11_askerOf_48 : decode cX11_askerOf 48 = .ok (.invokevirtual 164, 3) := by decide +kernel
theorem dX11_askerOf_51 : decode cX11_askerOf 51 = .ok (.ireturn, 1) := by decide +kernel
theorem dX11_wayOf_0 : decode cX11_wayOf 0 = .ok (.aload_n 0, 1) := by decide +kernel
theorem dX11_wayOf_1 : decode cX11_wayOf 1 = .ok (.getfield 28, 3) := by decide +kernel
theorem dX11_wayOf_4 : decode cX11_wayOf 4 = .ok (.iload_n 1, 1) := by decide +kernel
theorem dX11_wayOf_5 : decode cX11_wayOf 5 = .ok (.invokevirtual 102, 3) := by decide +kernel
theorem dX11_wayOf_8 : decode cX11_wayOf 8 = .ok (.astore_n 3, 1) := by decide +kernel
theorem dX11_wayOf_9 : decode cX11_wayOf 9 = .ok (.aload_n 3, 1) := by decide +kernel
theorem dX11_wayOf_10 : decode cX11_wayOf 10 = .ok (.ifnull 12, 3) := by decide +kernel
theorem dX11_wayOf_13 : decode cX11_wayOf 13 = .ok (.iload_n 2, 1) := by decide +kernel
theorem dX11_wayOf_14 : decode cX11_wayOf 14 = .ok (.ifCond .lt 8, 3) := by decide +kernel
theorem dX11_wayOf_17 : decode cX11_wayOf 17 = .ok (.iload_n 2, 1) := by decide +kernel
theorem dX11_wayOf_18 : decode cX11_wayOf 18 = .ok (.iconst 2, 1) := by decide +kernel
theorem dX11_wayOf_19 : decode cX11_wayOf 19 = .ok (.if_icmp .lt 9, 3) := by decide +kernel
theorem dX11_wayOf_22 : decode cX11_wayOf 22 = .ok (.aload_n 0, 1) := by decide +kernel
theorem dX11_wayOf_23 : decode cX11_wayOf 23 = .ok (.iconst 5, 1) := by decide +kernel
theorem dX11_wayOf_24 : decode cX11_wayOf 24 = .ok (.invokevirtual 63, 3) := by decide +kernel
theorem dX11_wayOf_27 : decode cX11_wayOf 27 = .ok (.ireturn, 1) := by decide +kernel
theorem dX11_wayOf_28 : decode cX11_wayOf 28 = .ok (.iload_n 2, 1) := by decide +kernel
theorem dX11_wayOf_29 : decode cX11_wayOf 29 = .ok (.ifCond .ne 10, 3) := by decide +kernel
theorem dX11_wayOf_32 : decode cX11_wayOf 32 = .ok (.aload_n 3, 1) := by decide +kernel
theorem dX11_wayOf_33 : decode cX11_wayOf 33 = .ok (.getfield 167, 3) := by decide +kernel
theorem dX11_wayOf_36 : decode cX11_wayOf 36 = .ok (.goto 7, 3) := by decide +kernel
theorem dX11_wayOf_39 : decode cX11_wayOf 39 = .ok (.aload_n 3, 1) := by decide +kernel
theorem dX11_wayOf_40 : decode cX11_wayOf 40 = .ok (.getfield 172, 3) := by decide +kernel
theorem dX11_wayOf_43 : decode cX11_wayOf 43 = .ok (.ireturn, 1) := by decide +kernel
theorem dX11_change_0 : decode cX11_change 0 = .ok (.aload_n 0, 1) := by decide +kernel
theorem dX11_change_1 : decode cX11_change 1 = .ok (.getfield 28, 3) := by decide +kernel
theorem dX11_change_4 : decode cX11_change 4 = .ok (.iload_n 1, 1) := by decide +kernel
theorem dX11_change_5 : decode cX11_change 5 = .ok (.invokevirtual 152, 3) := by decide +kernel
theorem dX11_change_8 : decode cX11_change 8 = .ok (.ifCond .ne 9, 3) := by decide +kernel
theorem dX11_change_11 : decode cX11_change 11 = .ok (.aload_n 0, 1) := by decide +kernel
theorem dX11_change_12 : decode cX11_change 12 = .ok (.iconst 1, 1) := by decide +kernel
theorem dX11_change_13 : decode cX11_change 13 = .ok (.invokevirtual 63, 3) := by decide +kernel
theorem dX11_change_16 : decode cX11_change 16 = .ok (.ireturn, 1) := by decide +kernel
theorem dX11_change_17 : decode cX11_change 17 = .ok (.iload_n 2, 1) := by decide +kernel
theorem dX11_change_18 : decode cX11_change 18 = .ok (.ifCond .lt 9, 3) := by decide +kernel
theorem dX11_change_21 : decode cX11_change 21 = .ok (.iload_n 2, 1) := by decide +kernel
theorem dX11_change_22 : decode cX11_change 22 = .ok (.bipush 6, 2) := by decide +kernel
theorem dX11_change_24 : decode cX11_change 24 = .ok (.if_icmp .lt 9, 3) := by decide +kernel
theorem dX11_change_27 : decode cX11_change 27 = .ok (.aload_n 0, 1) := by decide +kernel
theorem dX11_change_28 : decode cX11_change 28 = .ok (.iconst 5, 1) := by decide +kernel
theorem dX11_change_29 : decode cX11_change 29 = .ok (.invokevirtual 63, 3) := by decide +kernel
theorem dX11_change_32 : decode cX11_change 32 = .ok (.ireturn, 1) := by decide +kernel
theorem dX11_change_33 : decode cX11_change 33 = .ok (.iload_n 3, 1) := by decide +kernel
theorem dX11_change_34 : decode cX11_change 34 = .ok (.getstatic 124, 3) := by decide +kernel
theorem dX11_change_37 : decode cX11_change 37 = .ok (.iload_n 2, 1) := by decide +kernel
theorem dX11_change_38 : decode cX11_change 38 = .ok (.iaload, 1) := by decide +kernel
theorem dX11_change_39 : decode cX11_change 39 = .ok (.invokestatic 127, 3) := by decide +kernel
theorem dX11_change_42 : decode cX11_change 42 = .ok (.ifCond .ne 10, 3) := by decide +kernel
theorem dX11_change_45 : decode cX11_change 45 = .ok (.aload_n 0, 1) := by decide +kernel
theorem dX11_change_46 : decode cX11_change 46 = .ok (.bipush 6, 2) := by decide +kernel
theorem dX11_change_48 : decode cX11_change 48 = .ok (.invokevirtual 63, 3) := by decide +kernel
theorem dX11_change_51 : decode cX11_change 51 = .ok (.ireturn, 1) := by decide +kernel
theorem dX11_change_52 : decode cX11_change 52 = .ok (.aload_n 0, 1) := by decide +kernel
theorem dX11_change_53 : decode cX11_change 53 = .ok (.getfield 28, 3) := by decide +kernel
theorem dX11_change_56 : decode cX11_change 56 = .ok (.iload_n 1, 1) := by decide +kernel
theorem dX11_change_57 : decode cX11_change 57 = .ok (.iload_n 2, 1) := by decide +kernel
theorem dX11_change_58 : decode cX11_change 58 = .ok (.invokevirtual 155, 3) := by decide +kernel
theorem dX11_change_61 : decode cX11_change 61 = .ok (.istore 4, 2) := by decide +kernel
theorem dX11_change_63 : decode cX11_change 63 = .ok (.aload_n 0, 1) := by decide +kernel
theorem dX11_change_64 : decode cX11_change 64 = .ok (.getfield 28, 3) := by decide +kernel
theorem dX11_change_67 : decode cX11_change 67 = .ok (.iload_n 1, 1) := by decide +kernel
theorem dX11_change_68 : decode cX11_change 68 = .ok (.iload_n 2, 1) := by decide +kernel
theorem dX11_change_69 : decode cX11_change 69 = .ok (.iload_n 3, 1) := by decide +kernel
theorem dX11_change_70 : decode cX11_change 70 = .ok (.invokevirtual 175, 3) := by decide +kernel
theorem dX11_change_73 : decode cX11_change 73 = .ok (.iload 4, 2) := by decide +kernel
theorem dX11_change_75 : decode cX11_change 75 = .ok (.ireturn, 1) := by decide +kernel
theorem dX11_drawn_0 : decode cX11_drawn 0 = .ok (.aload_n 0, 1) := by decide +kernel
theorem dX11_drawn_1 : decode cX11_drawn 1 = .ok (.getfield 28, 3) := by decide +kernel
theorem dX11_drawn_4 : decode cX11_drawn 4 = .ok (.iload_n 1, 1) := by decide +kernel
theorem dX11_drawn_5 : decode cX11_drawn 5 = .ok (.invokevirtual 158, 3) := by decide +kernel
theorem dX11_drawn_8 : decode cX11_drawn 8 = .ok (.ifCond .ne 9, 3) := by decide +kernel
theorem dX11_drawn_11 : decode cX11_drawn 11 = .ok (.aload_n 0, 1) := by decide +kernel
theorem dX11_drawn_12 : decode cX11_drawn 12 = .ok (.iconst 1, 1) := by decide +kernel
theorem dX11_drawn_13 : decode cX11_drawn 13 = .ok (.invokevirtual 63, 3) := by decide +kernel
theorem dX11_drawn_16 : decode cX11_drawn 16 = .ok (.ireturn, 1) := by decide +kernel
theorem dX11_drawn_17 : decode cX11_drawn 17 = .ok (.iload_n 2, 1) := by decide +kernel
theorem dX11_drawn_18 : decode cX11_drawn 18 = .ok (.getstatic 138, 3) := by decide +kernel
theorem dX11_drawn_21 : decode cX11_drawn 21 = .ok (.iconst 2, 1) := by decide +kernel
theorem dX11_drawn_22 : decode cX11_drawn 22 = .ok (.iaload, 1) := by decide +kernel
theorem dX11_drawn_23 : decode cX11_drawn 23 = .ok (.invokestatic 127, 3) := by decide +kernel
theorem dX11_drawn_26 : decode cX11_drawn 26 = .ok (.ifCond .ne 10, 3) := by decide +kernel
theorem dX11_drawn_29 : decode cX11_drawn 29 = .ok (.aload_n 0, 1) := by decide +kernel
theorem dX11_drawn_30 : decode cX11_drawn 30 = .ok (.bipush 6, 2) := by decide +kernel
theorem dX11_drawn_32 : decode cX11_drawn 32 = .ok (.invokevirtual 63, 3) := by decide +kernel
theorem dX11_drawn_35 : decode cX11_drawn 35 = .ok (.ireturn, 1) := by decide +kernel
theorem dX11_drawn_36 : decode cX11_drawn 36 = .ok (.aload_n 0, 1) := by decide +kernel
theorem dX11_drawn_37 : decode cX11_drawn 37 = .ok (.getfield 28, 3) := by decide +kernel
theorem dX11_drawn_40 : decode cX11_drawn 40 = .ok (.iload_n 1, 1) := by decide +kernel
theorem dX11_drawn_41 : decode cX11_drawn 41 = .ok (.iconst 2, 1) := by decide +kernel
theorem dX11_drawn_42 : decode cX11_drawn 42 = .ok (.invokevirtual 164, 3) := by decide +kernel
theorem dX11_drawn_45 : decode cX11_drawn 45 = .ok (.istore_n 3, 1) := by decide +kernel
theorem dX11_drawn_46 : decode cX11_drawn 46 = .ok (.aload_n 0, 1) := by decide +kernel
theorem dX11_drawn_47 : decode cX11_drawn 47 = .ok (.getfield 28, 3) := by decide +kernel
theorem dX11_drawn_50 : decode cX11_drawn 50 = .ok (.iload_n 1, 1) := by decide +kernel
theorem dX11_drawn_51 : decode cX11_drawn 51 = .ok (.iload_n 2, 1) := by decide +kernel
theorem dX11_drawn_52 : decode cX11_drawn 52 = .ok (.invokevirtual 179, 3) := by decide +kernel
theorem dX11_drawn_55 : decode cX11_drawn 55 = .ok (.iload_n 3, 1) := by decide +kernel
theorem dX11_drawn_56 : decode cX11_drawn 56 = .ok (.ireturn, 1) := by decide +kernel
theorem dX11_chief_0 : decode cX11_chief 0 = .ok (.aload_n 0, 1) := by decide +kernel
theorem dX11_chief_1 : decode cX11_chief 1 = .ok (.getfield 28, 3) := by decide +kernel
theorem dX11_chief_4 : decode cX11_chief 4 = .ok (.iload_n 1, 1) := by decide +kernel
theorem dX11_chief_5 : decode cX11_chief 5 = .ok (.invokevirtual 158, 3) := by decide +kernel
theorem dX11_chief_8 : decode cX11_chief 8 = .ok (.ifCond .eq 14, 3) := by decide +kernel
theorem dX11_chief_11 : decode cX11_chief 11 = .ok (.aload_n 0, 1) := by decide +kernel
theorem dX11_chief_12 : decode cX11_chief 12 = .ok (.getfield 28, 3) := by decide +kernel
theorem dX11_chief_15 : decode cX11_chief 15 = .ok (.iload_n 1, 1) := by decide +kernel
theorem dX11_chief_16 : decode cX11_chief 16 = .ok (.invokevirtual 182, 3) := by decide +kernel
theorem dX11_chief_19 : decode cX11_chief 19 = .ok (.goto 8, 3) := by decide +kernel
theorem dX11_chief_22 : decode cX11_chief 22 = .ok (.aload_n 0, 1) := by decide +kernel
theorem dX11_chief_23 : decode cX11_chief 23 = .ok (.iconst 1, 1) := by decide +kernel
theorem dX11_chief_24 : decode cX11_chief 24 = .ok (.invokevirtual 63, 3) := by decide +kernel
theorem dX11_chief_27 : decode cX11_chief 27 = .ok (.ireturn, 1) := by decide +kernel
theorem dX11_house_0 : decode cX11_house 0 = .ok (.aload_n 0, 1) := by decide +kernel
theorem dX11_house_1 : decode cX11_house 1 = .ok (.iload_n 1, 1) := by decide +kernel
theorem dX11_house_2 : decode cX11_house 2 = .ok (.invokevirtual 59, 3) := by decide +kernel
theorem dX11_house_5 : decode cX11_house 5 = .ok (.astore_n 2, 1) := by decide +kernel
theorem dX11_house_6 : decode cX11_house 6 = .ok (.aload_n 2, 1) := by decide +kernel
theorem dX11_house_7 : decode cX11_house 7 = .ok (.ifnull 10, 3) := by decide +kernel
theorem dX11_house_10 : decode cX11_house 10 = .ok (.aload_n 2, 1) := by decide +kernel
theorem dX11_house_11 : decode cX11_house 11 = .ok (.invokevirtual 71, 3) := by decide +kernel
theorem dX11_house_14 : decode cX11_house 14 = .ok (.ifCond .ne 12, 3) := by decide +kernel
theorem dX11_house_17 : decode cX11_house 17 = .ok (.aload_n 0, 1) := by decide +kernel
theorem dX11_house_18 : decode cX11_house 18 = .ok (.aload_n 2, 1) := by decide +kernel
theorem dX11_house_19 : decode cX11_house 19 = .ok (.invokestatic 75, 3) := by decide +kernel
theorem dX11_house_22 : decode cX11_house 22 = .ok (.invokevirtual 63, 3) := by decide +kernel
theorem dX11_house_25 : decode cX11_house 25 = .ok (.ireturn, 1) := by decide +kernel
theorem dX11_house_26 : decode cX11_house 26 = .ok (.aload_n 0, 1) := by decide +kernel
theorem dX11_house_27 : decode cX11_house 27 = .ok (.getfield 40, 3) := by decide +kernel
theorem dX11_house_30 : decode cX11_house 30 = .ok (.aload_n 2, 1) := by decide +kernel
theorem dX11_house_31 : decode cX11_house 31 = .ok (.aload_n 0, 1) := by decide +kernel
theorem dX11_house_32 : decode cX11_house 32 = .ok (.getfield 28, 3) := by decide +kernel
theorem dX11_house_35 : decode cX11_house 35 = .ok (.invokevirtual 185, 3) := by decide +kernel
theorem dX11_house_38 : decode cX11_house 38 = .ok (.istore_n 3, 1) := by decide +kernel
theorem dX11_house_39 : decode cX11_house 39 = .ok (.aload_n 0, 1) := by decide +kernel
theorem dX11_house_40 : decode cX11_house 40 = .ok (.aload_n 0, 1) := by decide +kernel
theorem dX11_house_41 : decode cX11_house 41 = .ok (.getfield 40, 3) := by decide +kernel
theorem dX11_house_44 : decode cX11_house 44 = .ok (.invokevirtual 189, 3) := by decide +kernel
theorem dX11_house_47 : decode cX11_house 47 = .ok (.putfield 55, 3) := by decide +kernel
theorem dX11_house_50 : decode cX11_house 50 = .ok (.aload_n 0, 1) := by decide +kernel
theorem dX11_house_51 : decode cX11_house 51 = .ok (.getfield 55, 3) := by decide +kernel
theorem dX11_house_54 : decode cX11_house 54 = .ok (.iconst (-1), 1) := by decide +kernel
theorem dX11_house_55 : decode cX11_house 55 = .ok (.if_icmp .eq 10, 3) := by decide +kernel
theorem dX11_house_58 : decode cX11_house 58 = .ok (.aload_n 0, 1) := by decide +kernel
theorem dX11_house_59 : decode cX11_house 59 = .ok (.bipush 6, 2) := by decide +kernel
theorem dX11_house_61 : decode cX11_house 61 = .ok (.invokevirtual 63, 3) := by decide +kernel
theorem dX11_house_64 : decode cX11_house 64 = .ok (.ireturn, 1) := by decide +kernel
theorem dX11_house_65 : decode cX11_house 65 = .ok (.aload_n 0, 1) := by decide +kernel
theorem dX11_house_66 : decode cX11_house 66 = .ok (.getfield 28, 3) := by decide +kernel
theorem dX11_house_69 : decode cX11_house 69 = .ok (.aload_n 0, 1) := by decide +kernel
theorem dX11_house_70 : decode cX11_house 70 = .ok (.getfield 40, 3) := by decide +kernel
theorem dX11_house_73 : decode cX11_house 73 = .ok (.invokevirtual 192, 3) := by decide +kernel
theorem dX11_house_76 : decode cX11_house 76 = .ok (.invokevirtual 196, 3) := by decide +kernel
theorem dX11_house_79 : decode cX11_house 79 = .ok (.iload_n 3, 1) := by decide +kernel
theorem dX11_house_80 : decode cX11_house 80 = .ok (.ireturn, 1) := by decide +kernel
theorem dX11_fault_0 : decode cX11_fault 0 = .ok (.aload_n 0, 1) := by decide +kernel
theorem dX11_fault_1 : decode cX11_fault 1 = .ok (.getfield 55, 3) := by decide +kernel
theorem dX11_fault_4 : decode cX11_fault 4 = .ok (.ireturn, 1) := by decide +kernel
theorem dX11_shows_0 : decode cX11_shows 0 = .ok (.aload_n 0, 1) := by decide +kernel
theorem dX11_shows_1 : decode cX11_shows 1 = .ok (.getfield 28, 3) := by decide +kernel
theorem dX11_shows_4 : decode cX11_shows 4 = .ok (.iload_n 1, 1) := by decide +kernel
theorem dX11_shows_5 : decode cX11_shows 5 = .ok (.invokevirtual 102, 3) := by decide +kernel
theorem dX11_shows_8 : decode cX11_shows 8 = .ok (.astore 4, 2) := by decide +kernel
theorem dX11_shows_10 : decode cX11_shows 10 = .ok (.aload 4, 2) := by decide +kernel
theorem dX11_shows_12 : decode cX11_shows 12 = .ok (.ifnull 25, 3) := by decide +kernel
theorem dX11_shows_15 : decode cX11_shows 15 = .ok (.aload_n 0, 1) := by decide +kernel
theorem dX11_shows_16 : decode cX11_shows 16 = .ok (.getfield 28, 3) := by decide +kernel
theorem dX11_shows_19 : decode cX11_shows 19 = .ok (.iload_n 2, 1) := by decide +kernel
theorem dX11_shows_20 : decode cX11_shows 20 = .ok (.invokevirtual 158, 3) := by decide +kernel
theorem dX11_shows_23 : decode cX11_shows 23 = .ok (.ifCond .eq 14, 3) := by decide +kernel
theorem dX11_shows_26 : decode cX11_shows 26 = .ok (.aload_n 0, 1) := by decide +kernel
theorem dX11_shows_27 : decode cX11_shows 27 = .ok (.getfield 28, 3) := by decide +kernel
theorem dX11_shows_30 : decode cX11_shows 30 = .ok (.iload_n 3, 1) := by decide +kernel
theorem dX11_shows_31 : decode cX11_shows 31 = .ok (.invokevirtual 152, 3) := by decide +kernel
theorem dX11_shows_34 : decode cX11_shows 34 = .ok (.ifCond .ne 9, 3) := by decide +kernel
theorem dX11_shows_37 : decode cX11_shows 37 = .ok (.aload_n 0, 1) := by decide +kernel
theorem dX11_shows_38 : decode cX11_shows 38 = .ok (.iconst 1, 1) := by decide +kernel
theorem dX11_shows_39 : decode cX11_shows 39 = .ok (.invokevirtual 63, 3) := by decide +kernel
theorem dX11_shows_42 : decode cX11_shows 42 = .ok (.ireturn, 1) := by decide +kernel
theorem dX11_shows_43 : decode cX11_shows 43 = .ok (.aload 4, 2) := by decide +kernel
theorem dX11_shows_45 : decode cX11_shows 45 = .ok (.aload_n 0, 1) := by decide +kernel
theorem dX11_shows_46 : decode cX11_shows 46 = .ok (.getfield 28, 3) := by decide +kernel
theorem dX11_shows_49 : decode cX11_shows 49 = .ok (.iload_n 2, 1) := by decide +kernel
theorem dX11_shows_50 : decode cX11_shows 50 = .ok (.iload_n 3, 1) := by decide +kernel
theorem dX11_shows_51 : decode cX11_shows 51 = .ok (.invokevirtual 199, 3) := by decide +kernel
theorem dX11_shows_54 : decode cX11_shows 54 = .ok (.ireturn, 1) := by decide +kernel
theorem dX11_said_0 : decode cX11_said 0 = .ok (.aload_n 0, 1) := by decide +kernel
theorem dX11_said_1 : decode cX11_said 1 = .ok (.getfield 28, 3) := by decide +kernel
theorem dX11_said_4 : decode cX11_said 4 = .ok (.iload_n 1, 1) := by decide +kernel
theorem dX11_said_5 : decode cX11_said 5 = .ok (.invokevirtual 102, 3) := by decide +kernel
theorem dX11_said_8 : decode cX11_said 8 = .ok (.astore 5, 2) := by decide +kernel
theorem dX11_said_10 : decode cX11_said 10 = .ok (.aload 5, 2) := by decide +kernel
theorem dX11_said_12 : decode cX11_said 12 = .ok (.ifnull 26, 3) := by decide +kernel
theorem dX11_said_15 : decode cX11_said 15 = .ok (.aload_n 0, 1) := by decide +kernel
theorem dX11_said_16 : decode cX11_said 16 = .ok (.getfield 28, 3) := by decide +kernel
theorem dX11_said_19 : decode cX11_said 19 = .ok (.iload_n 3, 1) := by decide +kernel
theorem dX11_said_20 : decode cX11_said 20 = .ok (.invokevirtual 158, 3) := by decide +kernel
theorem dX11_said_23 : decode cX11_said 23 = .ok (.ifCond .eq 15, 3) := by decide +kernel
theorem dX11_said_26 : decode cX11_said 26 = .ok (.aload_n 0, 1) := by decide +kernel
theorem dX11_said_27 : decode cX11_said 27 = .ok (.getfield 28, 3) := by decide +kernel
theorem dX11_said_30 : decode cX11_said 30 = .ok (.iload 4, 2) := by decide +kernel
theorem dX11_said_32 : decode cX11_said 32 = .ok (.invokevirtual 152, 3) := by decide +kernel
theorem dX11_said_35 : decode cX11_said 35 = .ok (.ifCond .ne 9, 3) := by decide +kernel
theorem dX11_said_38 : decode cX11_said 38 = .ok (.aload_n 0, 1) := by decide +kernel
theorem dX11_said_39 : decode cX11_said 39 = .ok (.iconst 1, 1) := by decide +kernel
theorem dX11_said_40 : decode cX11_said 40 = .ok (.invokevirtual 63, 3) := by decide +kernel
theorem dX11_said_43 : decode cX11_said 43 = .ok (.ireturn, 1) := by decide +kernel
theorem dX11_said_44 : decode cX11_said 44 = .ok (.aload_n 0, 1) := by decide +kernel
theorem dX11_said_45 : decode cX11_said 45 = .ok (.getfield 28, 3) := by decide +kernel
theorem dX11_said_48 : decode cX11_said 48 = .ok (.aload 5, 2) := by decide +kernel
theorem dX11_said_50 : decode cX11_said 50 = .ok (.iload_n 2, 1) := by decide +kernel
theorem dX11_said_51 : decode cX11_said 51 = .ok (.iload_n 3, 1) := by decide +kernel
theorem dX11_said_52 : decode cX11_said 52 = .ok (.iload 4, 2) := by decide +kernel
theorem dX11_said_54 : decode cX11_said 54 = .ok (.invokevirtual 203, 3) := by decide +kernel
theorem dX11_said_57 : decode cX11_said 57 = .ok (.ireturn, 1) := by decide +kernel
theorem dX11_total_0 : decode cX11_total 0 = .ok (.aload_n 0, 1) := by decide +kernel
theorem dX11_total_1 : decode cX11_total 1 = .ok (.getfield 28, 3) := by decide +kernel
theorem dX11_total_4 : decode cX11_total 4 = .ok (.iload_n 1, 1) := by decide +kernel
theorem dX11_total_5 : decode cX11_total 5 = .ok (.invokevirtual 102, 3) := by decide +kernel
theorem dX11_total_8 : decode cX11_total 8 = .ok (.astore 4, 2) := by decide +kernel
theorem dX11_total_10 : decode cX11_total 10 = .ok (.aload 4, 2) := by decide +kernel
theorem dX11_total_12 : decode cX11_total 12 = .ok (.ifnull 14, 3) := by decide +kernel
theorem dX11_total_15 : decode cX11_total 15 = .ok (.aload_n 0, 1) := by decide +kernel
theorem dX11_total_16 : decode cX11_total 16 = .ok (.getfield 28, 3) := by decide +kernel
theorem dX11_total_19 : decode cX11_total 19 = .ok (.iload_n 3, 1) := by decide +kernel
theorem dX11_total_20 : decode cX11_total 20 = .ok (.invokevirtual 152, 3) := by decide +kernel
theorem dX11_total_23 : decode cX11_total 23 = .ok (.ifCond .ne 9, 3) := by decide +kernel
theorem dX11_total_26 : decode cX11_total 26 = .ok (.aload_n 0, 1) := by decide +kernel
theorem dX11_total_27 : decode cX11_total 27 = .ok (.iconst 1, 1) := by decide +kernel
theorem dX11_total_28 : decode cX11_total 28 = .ok (.invokevirtual 63, 3) := by decide +kernel
theorem dX11_total_31 : decode cX11_total 31 = .ok (.ireturn, 1) := by decide +kernel
theorem dX11_total_32 : decode cX11_total 32 = .ok (.aload_n 0, 1) := by decide +kernel
theorem dX11_total_33 : decode cX11_total 33 = .ok (.getfield 28, 3) := by decide +kernel
theorem dX11_total_36 : decode cX11_total 36 = .ok (.aload_n 0, 1) := by decide +kernel
theorem dX11_total_37 : decode cX11_total 37 = .ok (.getfield 28, 3) := by decide +kernel
theorem dX11_total_40 : decode cX11_total 40 = .ok (.invokevirtual 207, 3) := by decide +kernel
theorem dX11_total_43 : decode cX11_total 43 = .ok (.aload 4, 2) := by decide +kernel
theorem dX11_total_45 : decode cX11_total 45 = .ok (.iload_n 2, 1) := by decide +kernel
theorem dX11_total_46 : decode cX11_total 46 = .ok (.iload_n 3, 1) := by decide +kernel
theorem dX11_total_47 : decode cX11_total 47 = .ok (.invokevirtual 210, 3) := by decide +kernel
theorem dX11_total_50 : decode cX11_total 50 = .ok (.ireturn, 1) := by decide +kernel
theorem dX11_taken_0 : decode cX11_taken 0 = .ok (.aload_n 0, 1) := by decide +kernel
theorem dX11_taken_1 : decode cX11_taken 1 = .ok (.getfield 28, 3) := by decide +kernel
theorem dX11_taken_4 : decode cX11_taken 4 = .ok (.iload_n 1, 1) := by decide +kernel
theorem dX11_taken_5 : decode cX11_taken 5 = .ok (.invokevirtual 102, 3) := by decide +kernel
theorem dX11_taken_8 : decode cX11_taken 8 = .ok (.astore_n 3, 1) := by decide +kernel
theorem dX11_taken_9 : decode cX11_taken 9 = .ok (.aload_n 3, 1) := by decide +kernel
theorem dX11_taken_10 : decode cX11_taken 10 = .ok (.ifnonnull 12, 3) := by decide +kernel
theorem dX11_taken_13 : decode cX11_taken 13 = .ok (.aload_n 0, 1) := by decide +kernel
theorem dX11_taken_14 : decode cX11_taken 14 = .ok (.iconst 1, 1) := by decide +kernel
theorem dX11_taken_15 : decode cX11_taken 15 = .ok (.invokevirtual 63, 3) := by decide +kernel
theorem dX11_taken_18 : decode cX11_taken 18 = .ok (.pop, 1) := by decide +kernel
theorem dX11_taken_19 : decode cX11_taken 19 = .ok (.bipush (-11), 2) := by decide +kernel
theorem dX11_taken_21 : decode cX11_taken 21 = .ok (.ireturn, 1) := by decide +kernel
theorem dX11_taken_22 : decode cX11_taken 22 = .ok (.aload_n 0, 1) := by decide +kernel
theorem dX11_taken_23 : decode cX11_taken 23 = .ok (.getfield 28, 3) := by decide +kernel
theorem dX11_taken_26 : decode cX11_taken 26 = .ok (.aload_n 3, 1) := by decide +kernel
theorem dX11_taken_27 : decode cX11_taken 27 = .ok (.iload_n 2, 1) := by decide +kernel
theorem dX11_taken_28 : decode cX11_taken 28 = .ok (.invokevirtual 214, 3) := by decide +kernel
theorem dX11_taken_31 : decode cX11_taken 31 = .ok (.ireturn, 1) := by decide +kernel
theorem dX11_best_0 : decode cX11_best 0 = .ok (.aload_n 0, 1) := by decide +kernel
theorem dX11_best_1 : decode cX11_best 1 = .ok (.getfield 28, 3) := by decide +kernel
theorem dX11_best_4 : decode cX11_best 4 = .ok (.iconst 0, 1) := by decide +kernel
theorem dX11_best_5 : decode cX11_best 5 = .ok (.invokevirtual 152, 3) := by decide +kernel
theorem dX11_best_8 : decode cX11_best 8 = .ok (.ifCond .eq 15, 3) := by decide +kernel
theorem dX11_best_11 : decode cX11_best 11 = .ok (.aload_n 0, 1) := by decide +kernel
theorem dX11_best_12 : decode cX11_best 12 = .ok (.getfield 28, 3) := by decide +kernel
theorem dX11_best_15 : decode cX11_best 15 = .ok (.bipush 6, 2) := by decide +kernel
theorem dX11_best_17 : decode cX11_best 17 = .ok (.invokevirtual 218, 3) := by decide +kernel
theorem dX11_best_20 : decode cX11_best 20 = .ok (.goto 8, 3) := by decide +kernel
theorem dX11_best_23 : decode cX11_best 23 = .ok (.aload_n 0, 1) := by decide +kernel
theorem dX11_best_24 : decode cX11_best 24 = .ok (.iconst 5, 1) := by decide +kernel
theorem dX11_best_25 : decode cX11_best 25 = .ok (.invokevirtual 63, 3) := by decide +kernel
theorem dX11_best_28 : decode cX11_best 28 = .ok (.ireturn, 1) := by decide +kernel
theorem dX11_tells_0 : decode cX11_tells 0 = .ok (.aload_n 0, 1) := by decide +kernel
theorem dX11_tells_1 : decode cX11_tells 1 = .ok (.getfield 28, 3) := by decide +kernel
theorem dX11_tells_4 : decode cX11_tells 4 = .ok (.iload_n 1, 1) := by decide +kernel
theorem dX11_tells_5 : decode cX11_tells 5 = .ok (.invokevirtual 102, 3) := by decide +kernel
theorem dX11_tells_8 : decode cX11_tells 8 = .ok (.astore_n 3, 1) := by decide +kernel
theorem dX11_tells_9 : decode cX11_tells 9 = .ok (.aload_n 3, 1) := by decide +kernel
theorem dX11_tells_10 : decode cX11_tells 10 = .ok (.ifnonnull 11, 3) := by decide +kernel
theorem dX11_tells_13 : decode cX11_tells 13 = .ok (.aload_n 0, 1) := by decide +kernel
theorem dX11_tells_14 : decode cX11_tells 14 = .ok (.iconst 1, 1) := by decide +kernel
theorem dX11_tells_15 : decode cX11_tells 15 = .ok (.invokevirtual 221, 3) := by decide +kernel
theorem dX11_tells_18 : decode cX11_tells 18 = .ok (.goto 12, 3) := by decide +kernel
theorem dX11_tells_21 : decode cX11_tells 21 = .ok (.aload_n 0, 1) := by decide +kernel
theorem dX11_tells_22 : decode cX11_tells 22 = .ok (.getfield 28, 3) := by decide +kernel
theorem dX11_tells_25 : decode cX11_tells 25 = .ok (.aload_n 3, 1) := by decide +kernel
theorem dX11_tells_26 : decode cX11_tells 26 = .ok (.iload_n 2, 1) := by decide +kernel
theorem dX11_tells_27 : decode cX11_tells 27 = .ok (.invokevirtual 224, 3) := by decide +kernel
theorem dX11_tells_30 : decode cX11_tells 30 = .ok (.ireturn, 1) := by decide +kernel
theorem dX11_righted_0 : decode cX11_righted 0 = .ok (.aload_n 0, 1) := by decide +kernel
theorem dX11_righted_1 : decode cX11_righted 1 = .ok (.getfield 28, 3) := by decide +kernel
theorem dX11_righted_4 : decode cX11_righted 4 = .ok (.iload_n 1, 1) := by decide +kernel
theorem dX11_righted_5 : decode cX11_righted 5 = .ok (.invokevirtual 102, 3) := by decide +kernel
theorem dX11_righted_8 : decode cX11_righted 8 = .ok (.astore_n 3, 1) := by decide +kernel
theorem dX11_righted_9 : decode cX11_righted 9 = .ok (.aload_n 3, 1) := by decide +kernel
theorem dX11_righted_10 : decode cX11_righted 10 = .ok (.ifnonnull 9, 3) := by decide +kernel
theorem dX11_righted_13 : decode cX11_righted 13 = .ok (.aload_n 0, 1) := by decide +kernel
theorem dX11_righted_14 : decode cX11_righted 14 = .ok (.iconst 1, 1) := by decide +kernel
theorem dX11_righted_15 : decode cX11_righted 15 = .ok (.invokevirtual 221, 3) := by decide +kernel
theorem dX11_righted_18 : decode cX11_righted 18 = .ok (.ireturn, 1) := by decide +kernel
theorem dX11_righted_19 : decode cX11_righted 19 = .ok (.iload_n 2, 1) := by decide +kernel
theorem dX11_righted_20 : decode cX11_righted 20 = .ok (.iconst 2, 1) := by decide +kernel
theorem dX11_righted_21 : decode cX11_righted 21 = .ok (.if_icmp .lt 9, 3) := by decide +kernel
theorem dX11_righted_24 : decode cX11_righted 24 = .ok (.iload_n 2, 1) := by decide +kernel
theorem dX11_righted_25 : decode cX11_righted 25 = .ok (.bipush 8, 2) := by decide +kernel
theorem dX11_righted_27 : decode cX11_righted 27 = .ok (.if_icmp .le 12, 3) := by decide +kernel
theorem dX11_righted_30 : decode cX11_righted 30 = .ok (.aload_n 0, 1) := by decide +kernel
theorem dX11_righted_31 : decode cX11_righted 31 = .ok (.bipush 6, 2) := by decide +kernel
theorem dX11_righted_33 : decode cX11_righted 33 = .ok (.invokevirtual 221, 3) := by decide +kernel
theorem dX11_righted_36 : decode cX11_righted 36 = .ok (.goto 12, 3) := by decide +kernel
theorem dX11_righted_39 : decode cX11_righted 39 = .ok (.aload_n 0, 1) := by decide +kernel
theorem dX11_righted_40 : decode cX11_righted 40 = .ok (.getfield 28, 3) := by decide +kernel
theorem dX11_righted_43 : decode cX11_righted 43 = .ok (.aload_n 3, 1) := by decide +kernel
theorem dX11_righted_44 : decode cX11_righted 44 = .ok (.iload_n 2, 1) := by decide +kernel
theorem dX11_righted_45 : decode cX11_righted 45 = .ok (.invokevirtual 227, 3) := by decide +kernel
theorem dX11_righted_48 : decode cX11_righted 48 = .ok (.ireturn, 1) := by decide +kernel
theorem dX11_head_0 : decode cX11_head 0 = .ok (.iconst (-1), 1) := by decide +kernel
theorem dX11_head_1 : decode cX11_head 1 = .ok (.istore_n 1, 1) := by decide +kernel
theorem dX11_head_2 : decode cX11_head 2 = .ok (.iconst 0, 1) := by decide +kernel
theorem dX11_head_3 : decode cX11_head 3 = .ok (.istore_n 2, 1) := by decide +kernel
theorem dX11_head_4 : decode cX11_head 4 = .ok (.iconst 0, 1) := by decide +kernel
theorem dX11_head_5 : decode cX11_head 5 = .ok (.istore_n 3, 1) := by decide +kernel
theorem dX11_head_6 : decode cX11_head 6 = .ok (.iload_n 3, 1) := by decide +kernel
theorem dX11_head_7 : decode cX11_head 7 = .ok (.bipush 8, 2) := by decide +kernel
theorem dX11_head_9 : decode cX11_head 9 = .ok (.if_icmp .ge 52, 3) := by decide +kernel
theorem dX11_head_12 : decode cX11_head 12 = .ok (.aload_n 0, 1) := by decide +kernel
theorem dX11_head_13 : decode cX11_head 13 = .ok (.getfield 28, 3) := by decide +kernel
theorem dX11_head_16 : decode cX11_head 16 = .ok (.iload_n 3, 1) := by decide +kernel
theorem dX11_head_17 : decode cX11_head 17 = .ok (.invokevirtual 102, 3) := by decide +kernel
theorem dX11_head_20 : decode cX11_head 20 = .ok (.astore 4, 2) := by decide +kernel
theorem dX11_head_22 : decode cX11_head 22 = .ok (.aload 4, 2) := by decide +kernel
theorem dX11_head_24 : decode cX11_head 24 = .ok (.ifnull 31, 3) := by decide +kernel
theorem dX11_head_27 : decode cX11_head 27 = .ok (.aload_n 0, 1) := by decide +kernel
theorem dX11_head_28 : decode cX11_head 28 = .ok (.getfield 28, 3) := by decide +kernel
theorem dX11_head_31 : decode cX11_head 31 = .ok (.aload 4, 2) := by decide +kernel
theorem dX11_head_33 : decode cX11_head 33 = .ok (.iconst 1, 1) := by decide +kernel
theorem dX11_head_34 : decode cX11_head 34 = .ok (.invokevirtual 224, 3) := by decide +kernel
theorem dX11_head_37 : decode cX11_head 37 = .ok (.istore 5, 2) := by decide +kernel
theorem dX11_head_39 : decode cX11_head 39 = .ok (.iload_n 1, 1) := by decide +kernel
theorem dX11_head_40 : decode cX11_head 40 = .ok (.iconst (-1), 1) := by decide +kernel
theorem dX11_head_41 : decode cX11_head 41 = .ok (.if_icmp .eq 9, 3) := by decide +kernel
theorem dX11_head_44 : decode cX11_head 44 = .ok (.iload 5, 2) := by decide +kernel
theorem dX11_head_46 : decode cX11_head 46 = .ok (.iload_n 2, 1) := by decide +kernel
theorem dX11_head_47 : decode cX11_head 47 = .ok (.if_icmp .le 8, 3) := by decide +kernel
theorem dX11_head_50 : decode cX11_head 50 = .ok (.iload_n 3, 1) := by decide +kernel
theorem dX11_head_51 : decode cX11_head 51 = .ok (.istore_n 1, 1) := by decide +kernel
theorem dX11_head_52 : decode cX11_head 52 = .ok (.iload 5, 2) := by decide +kernel
theorem dX11_head_54 : decode cX11_head 54 = .ok (.istore_n 2, 1) := by decide +kernel
theorem dX11_head_55 : decode cX11_head 55 = .ok (.iinc 3 1, 3) := by decide +kernel
theorem dX11_head_58 : decode cX11_head 58 = .ok (.goto (-52), 3) := by decide +kernel
theorem dX11_head_61 : decode cX11_head 61 = .ok (.iload_n 1, 1) := by decide +kernel
theorem dX11_head_62 : decode cX11_head 62 = .ok (.iconst (-1), 1) := by decide +kernel
theorem dX11_head_63 : decode cX11_head 63 = .ok (.if_icmp .ne 11, 3) := by decide +kernel
theorem dX11_head_66 : decode cX11_head 66 = .ok (.aload_n 0, 1) := by decide +kernel
theorem dX11_head_67 : decode cX11_head 67 = .ok (.iconst 5, 1) := by decide +kernel
theorem dX11_head_68 : decode cX11_head 68 = .ok (.invokevirtual 63, 3) := by decide +kernel
theorem dX11_head_71 : decode cX11_head 71 = .ok (.goto 4, 3) := by decide +kernel
theorem dX11_head_74 : decode cX11_head 74 = .ok (.iload_n 1, 1) := by decide +kernel
theorem dX11_head_75 : decode cX11_head 75 = .ok (.ireturn, 1) := by decide +kernel
theorem dX11_joined_0 : decode cX11_joined 0 = .ok (.aload_n 0, 1) := by decide +kernel
theorem dX11_joined_1 : decode cX11_joined 1 = .ok (.getfield 28, 3) := by decide +kernel
theorem dX11_joined_4 : decode cX11_joined 4 = .ok (.iload_n 1, 1) := by decide +kernel
theorem dX11_joined_5 : decode cX11_joined 5 = .ok (.invokevirtual 102, 3) := by decide +kernel
theorem dX11_joined_8 : decode cX11_joined 8 = .ok (.astore 4, 2) := by decide +kernel
theorem dX11_joined_10 : decode cX11_joined 10 = .ok (.aload_n 0, 1) := by decide +kernel
theorem dX11_joined_11 : decode cX11_joined 11 = .ok (.getfield 28, 3) := by decide +kernel
theorem dX11_joined_14 : decode cX11_joined 14 = .ok (.iload_n 2, 1) := by decide +kernel
theorem dX11_joined_15 : decode cX11_joined 15 = .ok (.invokevirtual 102, 3) := by decide +kernel
theorem dX11_joined_18 : decode cX11_joined 18 = .ok (.astore 5, 2) := by decide +kernel
theorem dX11_joined_20 : decode cX11_joined 20 = .ok (.aload 4, 2) := by decide +kernel
theorem dX11_joined_22 : decode cX11_joined 22 = .ok (.ifnull 8, 3) := by decide +kernel
theorem dX11_joined_25 : decode cX11_joined 25 = .ok (.aload 5, 2) := by decide +kernel
theorem dX11_joined_27 : decode cX11_joined 27 = .ok (.ifnonnull 9, 3) := by decide +kernel
theorem dX11_joined_30 : decode cX11_joined 30 = .ok (.aload_n 0, 1) := by decide +kernel
theorem dX11_joined_31 : decode cX11_joined 31 = .ok (.iconst 1, 1) := by decide +kernel
theorem dX11_joined_32 : decode cX11_joined 32 = .ok (.invokevirtual 221, 3) := by decide +kernel
theorem dX11_joined_35 : decode cX11_joined 35 = .ok (.ireturn, 1) := by decide +kernel
theorem dX11_joined_36 : decode cX11_joined 36 = .ok (.iload_n 3, 1) := by decide +kernel
theorem dX11_joined_37 : decode cX11_joined 37 = .ok (.bipush 10, 2) := by decide +kernel
theorem dX11_joined_39 : decode cX11_joined 39 = .ok (.invokestatic 127, 3) := by decide +kernel
theorem dX11_joined_42 : decode cX11_joined 42 = .ok (.ifCond .eq 18, 3) := by decide +kernel
theorem dX11_joined_45 : decode cX11_joined 45 = .ok (.aload_n 0, 1) := by decide +kernel
theorem dX11_joined_46 : decode cX11_joined 46 = .ok (.getfield 28, 3) := by decide +kernel
theorem dX11_joined_49 : decode cX11_joined 49 = .ok (.aload 4, 2) := by decide +kernel
theorem dX11_joined_51 : decode cX11_joined 51 = .ok (.aload 5, 2) := by decide +kernel
theorem dX11_joined_53 : decode cX11_joined 53 = .ok (.iload_n 3, 1) := by decide +kernel
theorem dX11_joined_54 : decode cX11_joined 54 = .ok (.invokevirtual 230, 3) := by decide +kernel
theorem dX11_joined_57 : decode cX11_joined 57 = .ok (.goto 9, 3) := by decide +kernel
theorem dX11_joined_60 : decode cX11_joined 60 = .ok (.aload_n 0, 1) := by decide +kernel
theorem dX11_joined_61 : decode cX11_joined 61 = .ok (.bipush 6, 2) := by decide +kernel
theorem dX11_joined_63 : decode cX11_joined 63 = .ok (.invokevirtual 221, 3) := by decide +kernel
theorem dX11_joined_66 : decode cX11_joined 66 = .ok (.ireturn, 1) := by decide +kernel
theorem dX11_weights_0 : decode cX11_weights 0 = .ok (.aload_n 0, 1) := by decide +kernel
theorem dX11_weights_1 : decode cX11_weights 1 = .ok (.getfield 28, 3) := by decide +kernel
theorem dX11_weights_4 : decode cX11_weights 4 = .ok (.iload_n 1, 1) := by decide +kernel
theorem dX11_weights_5 : decode cX11_weights 5 = .ok (.invokevirtual 102, 3) := by decide +kernel
theorem dX11_weights_8 : decode cX11_weights 8 = .ok (.astore_n 3, 1) := by decide +kernel
theorem dX11_weights_9 : decode cX11_weights 9 = .ok (.aload_n 0, 1) := by decide +kernel
theorem dX11_weights_10 : decode cX11_weights 10 = .ok (.getfield 28, 3) := by decide +kernel
theorem dX11_weights_13 : decode cX11_weights 13 = .ok (.iload_n 2, 1) := by decide +kernel
theorem dX11_weights_14 : decode cX11_weights 14 = .ok (.invokevirtual 102, 3) := by decide +kernel
theorem dX11_weights_17 : decode cX11_weights 17 = .ok (.astore 4, 2) := by decide +kernel
theorem dX11_weights_19 : decode cX11_weights 19 = .ok (.aload_n 3, 1) := by decide +kernel
theorem dX11_weights_20 : decode cX11_weights 20 = .ok (.ifnull 8, 3) := by decide +kernel
theorem dX11_weights_23 : decode cX11_weights 23 = .ok (.aload 4, 2) := by decide +kernel
theorem dX11_weights_25 : decode cX11_weights 25 = .ok (.ifnonnull 9, 3) := by decide +kernel
theorem dX11_weights_28 : decode cX11_weights 28 = .ok (.aload_n 0, 1) := by decide +kernel
theorem dX11_weights_29 : decode cX11_weights 29 = .ok (.iconst 1, 1) := by decide +kernel
theorem dX11_weights_30 : decode cX11_weights 30 = .ok (.invokevirtual 63, 3) := by decide +kernel
theorem dX11_weights_33 : decode cX11_weights 33 = .ok (.ireturn, 1) := by decide +kernel
theorem dX11_weights_34 : decode cX11_weights 34 = .ok (.iconst 0, 1) := by decide +kernel
theorem dX11_weights_35 : decode cX11_weights 35 = .ok (.istore 5, 2) := by decide +kernel
theorem dX11_weights_37 : decode cX11_weights 37 = .ok (.aload_n 0, 1) := by decide +kernel
theorem dX11_weights_38 : decode cX11_weights 38 = .ok (.getfield 28, 3) := by decide +kernel
theorem dX11_weights_41 : decode cX11_weights 41 = .ok (.aload_n 3, 1) := by decide +kernel
theorem dX11_weights_42 : decode cX11_weights 42 = .ok (.aload 4, 2) := by decide +kernel
theorem dX11_weights_44 : decode cX11_weights 44 = .ok (.iconst 0, 1) := by decide +kernel
theorem dX11_weights_45 : decode cX11_weights 45 = .ok (.invokevirtual 230, 3) := by decide +kernel
theorem dX11_weights_48 : decode cX11_weights 48 = .ok (.istore 6, 2) := by decide +kernel
theorem dX11_weights_50 : decode cX11_weights 50 = .ok (.iconst 1, 1) := by decide +kernel
theorem dX11_weights_51 : decode cX11_weights 51 = .ok (.istore 7, 2) := by decide +kernel
theorem dX11_weights_53 : decode cX11_weights 53 = .ok (.iload 7, 2) := by decide +kernel
theorem dX11_weights_55 : decode cX11_weights 55 = .ok (.bipush 10, 2) := by decide +kernel
theorem dX11_weights_57 : decode cX11_weights 57 = .ok (.if_icmp .gt 38, 3) := by decide +kernel
theorem dX11_weights_60 : decode cX11_weights 60 = .ok (.aload_n 0, 1) := by decide +kernel
theorem dX11_weights_61 : decode cX11_weights 61 = .ok (.getfield 28, 3) := by decide +kernel
theorem dX11_weights_64 : decode cX11_weights 64 = .ok (.aload_n 3, 1) := by decide +kernel
theorem dX11_weights_65 : decode cX11_weights 65 = .ok (.aload 4, 2) := by decide +kernel
theorem dX11_weights_67 : decode cX11_weights 67 = .ok (.iload 7, 2) := by decide +kernel
theorem dX11_weights_69 : decode cX11_weights 69 = .ok (.invokevirtual 230, 3) := by decide +kernel
theorem dX11_weights_72 : decode cX11_weights 72 = .ok (.istore 8, 2) := by decide +kernel
theorem dX11_weights_74 : decode cX11_weights 74 = .ok (.iload 8, 2) := by decide +kernel
theorem dX11_weights_76 : decode cX11_weights 76 = .ok (.iload 6, 2) := by decide +kernel
theorem dX11_weights_78 : decode cX11_weights 78 = .ok (.if_icmp .le 11, 3) := by decide +kernel
theorem dX11_weights_81 : decode cX11_weights 81 = .ok (.iload 7, 2) := by decide +kernel
theorem dX11_weights_83 : decode cX11_weights 83 = .ok (.istore 5, 2) := by decide +kernel
theorem dX11_weights_85 : decode cX11_weights 85 = .ok (.iload 8, 2) := by decide +kernel
theorem dX11_weights_87 : decode cX11_weights 87 = .ok (.istore 6, 2) := by decide +kernel
theorem dX11_weights_89 : decode cX11_weights 89 = .ok (.iinc 7 1, 3) := by decide +kernel
theorem dX11_weights_92 : decode cX11_weights 92 = .ok (.goto (-39), 3) := by decide +kernel
theorem dX11_weights_95 : decode cX11_weights 95 = .ok (.iload 5, 2) := by decide +kernel
theorem dX11_weights_97 : decode cX11_weights 97 = .ok (.ireturn, 1) := by decide +kernel
theorem dX11_heads_0 : decode cX11_heads 0 = .ok (.aload_n 0, 1) := by decide +kernel
theorem dX11_heads_1 : decode cX11_heads 1 = .ok (.getfield 28, 3) := by decide +kernel
theorem dX11_heads_4 : decode cX11_heads 4 = .ok (.iload_n 1, 1) := by decide +kernel
theorem dX11_heads_5 : decode cX11_heads 5 = .ok (.invokevirtual 158, 3) := by decide +kernel
theorem dX11_heads_8 : decode cX11_heads 8 = .ok (.ifCond .eq 14, 3) := by decide +kernel
theorem dX11_heads_11 : decode cX11_heads 11 = .ok (.aload_n 0, 1) := by decide +kernel
theorem dX11_heads_12 : decode cX11_heads 12 = .ok (.getfield 28, 3) := by decide +kernel
theorem dX11_heads_15 : decode cX11_heads 15 = .ok (.iload_n 1, 1) := by decide +kernel
theorem dX11_heads_16 : decode cX11_heads 16 = .ok (.invokevirtual 234, 3) := by decide +kernel
theorem dX11_heads_19 : decode cX11_heads 19 = .ok (.goto 8, 3) := by decide +kernel
theorem dX11_heads_22 : decode cX11_heads 22 = .ok (.aload_n 0, 1) := by decide +kernel
theorem dX11_heads_23 : decode cX11_heads 23 = .ok (.iconst 1, 1) := by decide +kernel
theorem dX11_heads_24 : decode cX11_heads 24 = .ok (.invokevirtual 63, 3) := by decide +kernel
theorem dX11_heads_27 : decode cX11_heads 27 = .ok (.ireturn, 1) := by decide +kernel
theorem dX11_agree_0 : decode cX11_agree 0 = .ok (.aload_n 0, 1) := by decide +kernel
theorem dX11_agree_1 : decode cX11_agree 1 = .ok (.getfield 28, 3) := by decide +kernel
theorem dX11_agree_4 : decode cX11_agree 4 = .ok (.iload_n 1, 1) := by decide +kernel
theorem dX11_agree_5 : decode cX11_agree 5 = .ok (.invokevirtual 102, 3) := by decide +kernel
theorem dX11_agree_8 : decode cX11_agree 8 = .ok (.astore_n 2, 1) := by decide +kernel
theorem dX11_agree_9 : decode cX11_agree 9 = .ok (.aload_n 2, 1) := by decide +kernel
theorem dX11_agree_10 : decode cX11_agree 10 = .ok (.ifnonnull 9, 3) := by decide +kernel
theorem dX11_agree_13 : decode cX11_agree 13 = .ok (.aload_n 0, 1) := by decide +kernel
theorem dX11_agree_14 : decode cX11_agree 14 = .ok (.iconst 1, 1) := by decide +kernel
theorem dX11_agree_15 : decode cX11_agree 15 = .ok (.invokevirtual 63, 3) := by decide +kernel
theorem dX11_agree_18 : decode cX11_agree 18 = .ok (.ireturn, 1) := by decide +kernel
theorem dX11_agree_19 : decode cX11_agree 19 = .ok (.aload_n 0, 1) := by decide +kernel
theorem dX11_agree_20 : decode cX11_agree 20 = .ok (.getfield 28, 3) := by decide +kernel
theorem dX11_agree_23 : decode cX11_agree 23 = .ok (.iconst 0, 1) := by decide +kernel
theorem dX11_agree_24 : decode cX11_agree 24 = .ok (.invokevirtual 152, 3) := by decide +kernel
theorem dX11_agree_27 : decode cX11_agree 27 = .ok (.ifCond .ne 9, 3) := by decide +kernel
theorem dX11_agree_30 : decode cX11_agree 30 = .ok (.aload_n 0, 1) := by decide +kernel
theorem dX11_agree_31 : decode cX11_agree 31 = .ok (.iconst 5, 1) := by decide +kernel
theorem dX11_agree_32 : decode cX11_agree 32 = .ok (.invokevirtual 63, 3) := by decide +kernel
theorem dX11_agree_35 : decode cX11_agree 35 = .ok (.ireturn, 1) := by decide +kernel
theorem dX11_agree_36 : decode cX11_agree 36 = .ok (.aload_n 0, 1) := by decide +kernel
theorem dX11_agree_37 : decode cX11_agree 37 = .ok (.getfield 28, 3) := by decide +kernel
theorem dX11_agree_40 : decode cX11_agree 40 = .ok (.aload_n 2, 1) := by decide +kernel
theorem dX11_agree_41 : decode cX11_agree 41 = .ok (.aload_n 0, 1) := by decide +kernel
theorem dX11_agree_42 : decode cX11_agree 42 = .ok (.getfield 28, 3) := by decide +kernel
theorem dX11_agree_45 : decode cX11_agree 45 = .ok (.aload_n 2, 1) := by decide +kernel
theorem dX11_agree_46 : decode cX11_agree 46 = .ok (.iconst 0, 1) := by decide +kernel
theorem dX11_agree_47 : decode cX11_agree 47 = .ok (.invokevirtual 214, 3) := by decide +kernel
theorem dX11_agree_50 : decode cX11_agree 50 = .ok (.invokevirtual 237, 3) := by decide +kernel
theorem dX11_agree_53 : decode cX11_agree 53 = .ok (.ireturn, 1) := by decide +kernel
theorem dX11_wrong_0 : decode cX11_wrong 0 = .ok (.aload_n 0, 1) := by decide +kernel
theorem dX11_wrong_1 : decode cX11_wrong 1 = .ok (.getfield 28, 3) := by decide +kernel
theorem dX11_wrong_4 : decode cX11_wrong 4 = .ok (.iload_n 1, 1) := by decide +kernel
theorem dX11_wrong_5 : decode cX11_wrong 5 = .ok (.invokevirtual 102, 3) := by decide +kernel
theorem dX11_wrong_8 : decode cX11_wrong 8 = .ok (.astore_n 3, 1) := by decide +kernel
theorem dX11_wrong_9 : decode cX11_wrong 9 = .ok (.aload_n 3, 1) := by decide +kernel
theorem dX11_wrong_10 : decode cX11_wrong 10 = .ok (.ifnonnull 9, 3) := by decide +kernel
theorem dX11_wrong_13 : decode cX11_wrong 13 = .ok (.aload_n 0, 1) := by decide +kernel
theorem dX11_wrong_14 : decode cX11_wrong 14 = .ok (.iconst 1, 1) := by decide +kernel
theorem dX11_wrong_15 : decode cX11_wrong 15 = .ok (.invokevirtual 63, 3) := by decide +kernel
theorem dX11_wrong_18 : decode cX11_wrong 18 = .ok (.ireturn, 1) := by decide +kernel
theorem dX11_wrong_19 : decode cX11_wrong 19 = .ok (.aload_n 0, 1) := by decide +kernel
theorem dX11_wrong_20 : decode cX11_wrong 20 = .ok (.getfield 28, 3) := by decide +kernel
theorem dX11_wrong_23 : decode cX11_wrong 23 = .ok (.iconst 0, 1) := by decide +kernel
theorem dX11_wrong_24 : decode cX11_wrong 24 = .ok (.invokevirtual 152, 3) := by decide +kernel
theorem dX11_wrong_27 : decode cX11_wrong 27 = .ok (.ifCond .ne 9, 3) := by decide +kernel
theorem dX11_wrong_30 : decode cX11_wrong 30 = .ok (.aload_n 0, 1) := by decide +kernel
theorem dX11_wrong_31 : decode cX11_wrong 31 = .ok (.iconst 5, 1) := by decide +kernel
theorem dX11_wrong_32 : decode cX11_wrong 32 = .ok (.invokevirtual 63, 3) := by decide +kernel
theorem dX11_wrong_35 : decode cX11_wrong 35 = .ok (.ireturn, 1) := by decide +kernel
theorem dX11_wrong_36 : decode cX11_wrong 36 = .ok (.aload_n 0, 1) := by decide +kernel
theorem dX11_wrong_37 : decode cX11_wrong 37 = .ok (.getfield 28, 3) := by decide +kernel
theorem dX11_wrong_40 : decode cX11_wrong 40 = .ok (.invokevirtual 240, 3) := by decide +kernel
theorem dX11_wrong_43 : decode cX11_wrong 43 = .ok (.aload_n 0, 1) := by decide +kernel
theorem dX11_wrong_44 : decode cX11_wrong 44 = .ok (.getfield 28, 3) := by decide +kernel
theorem dX11_wrong_47 : decode cX11_wrong 47 = .ok (.aload_n 0, 1) := by decide +kernel
theorem dX11_wrong_48 : decode cX11_wrong 48 = .ok (.getfield 28, 3) := by decide +kernel
theorem dX11_wrong_51 : decode cX11_wrong 51 = .ok (.aload_n 3, 1) := by decide +kernel
theorem dX11_wrong_52 : decode cX11_wrong 52 = .ok (.iload_n 2, 1) := by decide +kernel
theorem dX11_wrong_53 : decode cX11_wrong 53 = .ok (.invokevirtual 214, 3) := by decide +kernel
theorem dX11_wrong_56 : decode cX11_wrong 56 = .ok (.bipush 6, 2) := by decide +kernel
theorem dX11_wrong_58 : decode cX11_wrong 58 = .ok (.invokevirtual 155, 3) := by decide +kernel
theorem dX11_wrong_61 : decode cX11_wrong 61 = .ok (.isub, 1) := by decide +kernel
theorem dX11_wrong_62 : decode cX11_wrong 62 = .ok (.ireturn, 1) := by decide +kernel
theorem dX11_lost_0 : decode cX11_lost 0 = .ok (.aload_n 0, 1) := by decide +kernel
theorem dX11_lost_1 : decode cX11_lost 1 = .ok (.getfield 28, 3) := by decide +kernel
theorem dX11_lost_4 : decode cX11_lost 4 = .ok (.iload_n 1, 1) := by decide +kernel
theorem dX11_lost_5 : decode cX11_lost 5 = .ok (.invokevirtual 102, 3) := by decide +kernel
theorem dX11_lost_8 : decode cX11_lost 8 = .ok (.astore_n 3, 1) := by decide +kernel
theorem dX11_lost_9 : decode cX11_lost 9 = .ok (.aload_n 3, 1) := by decide +kernel
theorem dX11_lost_10 : decode cX11_lost 10 = .ok (.ifnonnull 9, 3) := by decide +kernel
theorem dX11_lost_13 : decode cX11_lost 13 = .ok (.aload_n 0, 1) := by decide +kernel
theorem dX11_lost_14 : decode cX11_lost 14 = .ok (.iconst 1, 1) := by decide +kernel
theorem dX11_lost_15 : decode cX11_lost 15 = .ok (.invokevirtual 63, 3) := by decide +kernel
theorem dX11_lost_18 : decode cX11_lost 18 = .ok (.ireturn, 1) := by decide +kernel
theorem dX11_lost_19 : decode cX11_lost 19 = .ok (.iload_n 2, 1) := by decide +kernel
theorem dX11_lost_20 : decode cX11_lost 20 = .ok (.aload_n 0, 1) := by decide +kernel
theorem dX11_lost_21 : decode cX11_lost 21 = .ok (.getfield 28, 3) := by decide +kernel
theorem dX11_lost_24 : decode cX11_lost 24 = .ok (.invokevirtual 243, 3) := by decide +kernel
theorem dX11_lost_27 : decode cX11_lost 27 = .ok (.if_icmp .le 9, 3) := by decide +kernel
theorem dX11_lost_30 : decode cX11_lost 30 = .ok (.aload_n 0, 1) := by decide +kernel
theorem dX11_lost_31 : decode cX11_lost 31 = .ok (.iconst 5, 1) := by decide +kernel
theorem dX11_lost_32 : decode cX11_lost 32 = .ok (.invokevirtual 63, 3) := by decide +kernel
theorem dX11_lost_35 : decode cX11_lost 35 = .ok (.ireturn, 1) := by decide +kernel
theorem dX11_lost_36 : decode cX11_lost 36 = .ok (.iload_n 2, 1) := by decide +kernel
theorem dX11_lost_37 : decode cX11_lost 37 = .ok (.iconst 1, 1) := by decide +kernel
theorem dX11_lost_38 : decode cX11_lost 38 = .ok (.if_icmp .ge 12, 3) := by decide +kernel
theorem dX11_lost_41 : decode cX11_lost 41 = .ok (.aload_n 0, 1) := by decide +kernel
theorem dX11_lost_42 : decode cX11_lost 42 = .ok (.bipush 6, 2) := by decide +kernel
theorem dX11_lost_44 : decode cX11_lost 44 = .ok (.invokevirtual 63, 3) := by decide +kernel
theorem dX11_lost_47 : decode cX11_lost 47 = .ok (.goto 12, 3) := by decide +kernel
theorem dX11_lost_50 : decode cX11_lost 50 = .ok (.aload_n 0, 1) := by decide +kernel
theorem dX11_lost_51 : decode cX11_lost 51 = .ok (.getfield 28, 3) := by decide +kernel
theorem dX11_lost_54 : decode cX11_lost 54 = .ok (.aload_n 3, 1) := by decide +kernel
theorem dX11_lost_55 : decode cX11_lost 55 = .ok (.iload_n 2, 1) := by decide +kernel
theorem dX11_lost_56 : decode cX11_lost 56 = .ok (.invokevirtual 246, 3) := by decide +kernel
theorem dX11_lost_59 : decode cX11_lost 59 = .ok (.ireturn, 1) := by decide +kernel
theorem dX11_turned_0 : decode cX11_turned 0 = .ok (.aload_n 0, 1) := by decide +kernel
theorem dX11_turned_1 : decode cX11_turned 1 = .ok (.getfield 28, 3) := by decide +kernel
theorem dX11_turned_4 : decode cX11_turned 4 = .ok (.iload_n 1, 1) := by decide +kernel
theorem dX11_turned_5 : decode cX11_turned 5 = .ok (.invokevirtual 102, 3) := by decide +kernel
theorem dX11_turned_8 : decode cX11_turned 8 = .ok (.astore_n 2, 1) := by decide +kernel
theorem dX11_turned_9 : decode cX11_turned 9 = .ok (.aload_n 2, 1) := by decide +kernel
theorem dX11_turned_10 : decode cX11_turned 10 = .ok (.ifnonnull 11, 3) := by decide +kernel
theorem dX11_turned_13 : decode cX11_turned 13 = .ok (.aload_n 0, 1) := by decide +kernel
theorem dX11_turned_14 : decode cX11_turned 14 = .ok (.iconst 1, 1) := by decide +kernel
theorem dX11_turned_15 : decode cX11_turned 15 = .ok (.invokevirtual 63, 3) := by decide +kernel
theorem dX11_turned_18 : decode cX11_turned 18 = .ok (.goto 11, 3) := by decide +kernel
theorem dX11_turned_21 : decode cX11_turned 21 = .ok (.aload_n 0, 1) := by decide +kernel
theorem dX11_turned_22 : decode cX11_turned 22 = .ok (.getfield 28, 3) := by decide +kernel
theorem dX11_turned_25 : decode cX11_turned 25 = .ok (.aload_n 2, 1) := by decide +kernel
theorem dX11_turned_26 : decode cX11_turned 26 = .ok (.invokevirtual 249, 3) := by decide +kernel
theorem dX11_turned_29 : decode cX11_turned 29 = .ok (.ireturn, 1) := by decide +kernel
theorem dX11_piece_0 : decode cX11_piece 0 = .ok (.iconst 0, 1) := by decide +kernel
theorem dX11_piece_1 : decode cX11_piece 1 = .ok (.istore_n 1, 1) := by decide +kernel
theorem dX11_piece_2 : decode cX11_piece 2 = .ok (.aload_n 0, 1) := by decide +kernel
theorem dX11_piece_3 : decode cX11_piece 3 = .ok (.getfield 28, 3) := by decide +kernel
theorem dX11_piece_6 : decode cX11_piece 6 = .ok (.iconst 0, 1) := by decide +kernel
theorem dX11_piece_7 : decode cX11_piece 7 = .ok (.invokevirtual 253, 3) := by decide +kernel
theorem dX11_piece_10 : decode cX11_piece 10 = .ok (.istore_n 2, 1) := by decide +kernel
theorem dX11_piece_11 : decode cX11_piece 11 = .ok (.iconst 1, 1) := by decide +kernel
theorem dX11_piece_12 : decode cX11_piece 12 = .ok (.istore_n 3, 1) := by decide +kernel
theorem dX11_piece_13 : decode cX11_piece 13 = .ok (.iload_n 3, 1) := by decide +kernel
theorem dX11_piece_14 : decode cX11_piece 14 = .ok (.iconst 3, 1) := by decide +kernel
theorem dX11_piece_15 : decode cX11_piece 15 = .ok (.if_icmp .ge 30, 3) := by decide +kernel
theorem dX11_piece_18 : decode cX11_piece 18 = .ok (.aload_n 0, 1) := by decide +kernel
theorem dX11_piece_19 : decode cX11_piece 19 = .ok (.getfield 28, 3) := by decide +kernel
theorem dX11_piece_22 : decode cX11_piece 22 = .ok (.iload_n 3, 1) := by decide +kernel
theorem dX11_piece_23 : decode cX11_piece 23 = .ok (.invokevirtual 253, 3) := by decide +kernel
theorem dX11_piece_26 : decode cX11_piece 26 = .ok (.istore 4, 2) := by decide +kernel
theorem dX11_piece_28 : decode cX11_piece 28 = .ok (.iload 4, 2) := by decide +kernel
theorem dX11_piece_30 : decode cX11_piece 30 = .ok (.iload_n 2, 1) := by decide +kernel
theorem dX11_piece_31 : decode cX11_piece 31 = .ok (.if_icmp .le 8, 3) := by decide +kernel
theorem dX11_piece_34 : decode cX11_piece 34 = .ok (.iload_n 3, 1) := by decide +kernel
theorem dX11_piece_35 : decode cX11_piece 35 = .ok (.istore_n 1, 1) := by decide +kernel
theorem dX11_piece_36 : decode cX11_piece 36 = .ok (.iload 4, 2) := by decide +kernel
theorem dX11_piece_38 : decode cX11_piece 38 = .ok (.istore_n 2, 1) := by decide +kernel
theorem dX11_piece_39 : decode cX11_piece 39 = .ok (.iinc 3 1, 3) := by decide +kernel
theorem dX11_piece_42 : decode cX11_piece 42 = .ok (.goto (-29), 3) := by decide +kernel
theorem dX11_piece_45 : decode cX11_piece 45 = .ok (.iload_n 1, 1) := by decide +kernel
theorem dX11_piece_46 : decode cX11_piece 46 = .ok (.ireturn, 1) := by decide +kernel
theorem dX11_comes_0 : decode cX11_comes 0 = .ok (.iload_n 1, 1) := by decide +kernel
theorem dX11_comes_1 : decode cX11_comes 1 = .ok (.invokestatic 256, 3) := by decide +kernel
theorem dX11_comes_4 : decode cX11_comes 4 = .ok (.ifCond .eq 20, 3) := by decide +kernel
theorem dX11_comes_7 : decode cX11_comes 7 = .ok (.iload_n 2, 1) := by decide +kernel
theorem dX11_comes_8 : decode cX11_comes 8 = .ok (.ifCond .lt 16, 3) := by decide +kernel
theorem dX11_comes_11 : decode cX11_comes 11 = .ok (.iload_n 2, 1) := by decide +kernel
theorem dX11_comes_12 : decode cX11_comes 12 = .ok (.iload_n 1, 1) := by decide +kernel
theorem dX11_comes_13 : decode cX11_comes 13 = .ok (.if_icmp .ge 11, 3) := by decide +kernel
theorem dX11_comes_16 : decode cX11_comes 16 = .ok (.iload_n 1, 1) := by decide +kernel
theorem dX11_comes_17 : decode cX11_comes 17 = .ok (.iload_n 2, 1) := by decide +kernel
theorem dX11_comes_18 : decode cX11_comes 18 = .ok (.invokestatic 259, 3) := by decide +kernel
theorem dX11_comes_21 : decode cX11_comes 21 = .ok (.goto 9, 3) := by decide +kernel
theorem dX11_comes_24 : decode cX11_comes 24 = .ok (.aload_n 0, 1) := by decide +kernel
theorem dX11_comes_25 : decode cX11_comes 25 = .ok (.bipush 6, 2) := by decide +kernel
theorem dX11_comes_27 : decode cX11_comes 27 = .ok (.invokevirtual 63, 3) := by decide +kernel
theorem dX11_comes_30 : decode cX11_comes 30 = .ok (.ireturn, 1) := by decide +kernel
theorem dX11_lets_0 : decode cX11_lets 0 = .ok (.iload_n 1, 1) := by decide +kernel
theorem dX11_lets_1 : decode cX11_lets 1 = .ok (.invokestatic 256, 3) := by decide +kernel
theorem dX11_lets_4 : decode cX11_lets 4 = .ok (.ifCond .ne 10, 3) := by decide +kernel
theorem dX11_lets_7 : decode cX11_lets 7 = .ok (.aload_n 0, 1) := by decide +kernel
theorem dX11_lets_8 : decode cX11_lets 8 = .ok (.bipush 6, 2) := by decide +kernel
theorem dX11_lets_10 : decode cX11_lets 10 = .ok (.invokevirtual 63, 3) := by decide +kernel
theorem dX11_lets_13 : decode cX11_lets 13 = .ok (.ireturn, 1) := by decide +kernel
theorem dX11_lets_14 : decode cX11_lets 14 = .ok (.iconst 0, 1) := by decide +kernel
theorem dX11_lets_15 : decode cX11_lets 15 = .ok (.istore_n 2, 1) := by decide +kernel
theorem dX11_lets_16 : decode cX11_lets 16 = .ok (.iconst 1, 1) := by decide +kernel
theorem dX11_lets_17 : decode cX11_lets 17 = .ok (.istore_n 3, 1) := by decide +kernel
theorem dX11_lets_18 : decode cX11_lets 18 = .ok (.iload_n 3, 1) := by decide +kernel
theorem dX11_lets_19 : decode cX11_lets 19 = .ok (.iload_n 1, 1) := by decide +kernel
theorem dX11_lets_20 : decode cX11_lets 20 = .ok (.if_icmp .ge 24, 3) := by decide +kernel
theorem dX11_lets_23 : decode cX11_lets 23 = .ok (.iload_n 1, 1) := by decide +kernel
theorem dX11_lets_24 : decode cX11_lets 24 = .ok (.iload_n 3, 1) := by decide +kernel
theorem dX11_lets_25 : decode cX11_lets 25 = .ok (.invokestatic 259, 3) := by decide +kernel
theorem dX11_lets_28 : decode cX11_lets 28 = .ok (.iload_n 1, 1) := by decide +kernel
theorem dX11_lets_29 : decode cX11_lets 29 = .ok (.iload_n 2, 1) := by decide +kernel
theorem dX11_lets_30 : decode cX11_lets 30 = .ok (.invokestatic 259, 3) := by decide +kernel
theorem dX11_lets_33 : decode cX11_lets 33 = .ok (.if_icmp .le 5, 3) := by decide +kernel
theorem dX11_lets_36 : decode cX11_lets 36 = .ok (.iload_n 3, 1) := by decide +kernel
theorem dX11_lets_37 : decode cX11_lets 37 = .ok (.istore_n 2, 1) := by decide +kernel
theorem dX11_lets_38 : decode cX11_lets 38 = .ok (.iinc 3 1, 3) := by decide +kernel
theorem dX11_lets_41 : decode cX11_lets 41 = .ok (.goto (-23), 3) := by decide +kernel
theorem dX11_lets_44 : decode cX11_lets 44 = .ok (.iload_n 2, 1) := by decide +kernel
theorem dX11_lets_45 : decode cX11_lets 45 = .ok (.ireturn, 1) := by decide +kernel
theorem dX11_judge_0 : decode cX11_judge 0 = .ok (.aload_n 0, 1) := by decide +kernel
theorem dX11_judge_1 : decode cX11_judge 1 = .ok (.iload_n 1, 1) := by decide +kernel
theorem dX11_judge_2 : decode cX11_judge 2 = .ok (.invokevirtual 59, 3) := by decide +kernel
theorem dX11_judge_5 : decode cX11_judge 5 = .ok (.astore_n 2, 1) := by decide +kernel
theorem dX11_judge_6 : decode cX11_judge 6 = .ok (.aload_n 2, 1) := by decide +kernel
theorem dX11_judge_7 : decode cX11_judge 7 = .ok (.ifnull 10, 3) := by decide +kernel
theorem dX11_judge_10 : decode cX11_judge 10 = .ok (.aload_n 2, 1) := by decide +kernel
theorem dX11_judge_11 : decode cX11_judge 11 = .ok (.invokevirtual 71, 3) := by decide +kernel
theorem dX11_judge_14 : decode cX11_judge 14 = .ok (.ifCond .ne 12, 3) := by decide +kernel
theorem dX11_judge_17 : decode cX11_judge 17 = .ok (.aload_n 0, 1) := by decide +kernel
theorem dX11_judge_18 : decode cX11_judge 18 = .ok (.aload_n 2, 1) := by decide +kernel
theorem dX11_judge_19 : decode cX11_judge 19 = .ok (.invokestatic 75, 3) := by decide +kernel
theorem dX11_judge_22 : decode cX11_judge 22 = .ok (.invokevirtual 63, 3) := by decide +kernel
theorem dX11_judge_25 : decode cX11_judge 25 = .ok (.ireturn, 1) := by decide +kernel
theorem dX11_judge_26 : decode cX11_judge 26 = .ok (.aload_n 0, 1) := by decide +kernel
theorem dX11_judge_27 : decode cX11_judge 27 = .ok (.getfield 28, 3) := by decide +kernel
theorem dX11_judge_30 : decode cX11_judge 30 = .ok (.aload_n 2, 1) := by decide +kernel
theorem dX11_judge_31 : decode cX11_judge 31 = .ok (.invokevirtual 262, 3) := by decide +kernel
theorem dX11_judge_34 : decode cX11_judge 34 = .ok (.ireturn, 1) := by decide +kernel
theorem dX11_told_0 : decode cX11_told 0 = .ok (.aload_n 0, 1) := by decide +kernel
theorem dX11_told_1 : decode cX11_told 1 = .ok (.iload_n 1, 1) := by decide +kernel
theorem dX11_told_2 : decode cX11_told 2 = .ok (.invokevirtual 59, 3) := by decide +kernel
theorem dX11_told_5 : decode cX11_told 5 = .ok (.astore_n 2, 1) := by decide +kernel
theorem dX11_told_6 : decode cX11_told 6 = .ok (.aload_n 2, 1) := by decide +kernel
theorem dX11_told_7 : decode cX11_told 7 = .ok (.ifnull 10, 3) := by decide +kernel
theorem dX11_told_10 : decode cX11_told 10 = .ok (.aload_n 2, 1) := by decide +kernel
theorem dX11_told_11 : decode cX11_told 11 = .ok (.invokevirtual 71, 3) := by decide +kernel
theorem dX11_told_14 : decode cX11_told 14 = .ok (.ifCond .ne 12, 3) := by decide +kernel
theorem dX11_told_17 : decode cX11_told 17 = .ok (.aload_n 0, 1) := by decide +kernel
theorem dX11_told_18 : decode cX11_told 18 = .ok (.aload_n 2, 1) := by decide +kernel
theorem dX11_told_19 : decode cX11_told 19 = .ok (.invokestatic 75, 3) := by decide +kernel
theorem dX11_told_22 : decode cX11_told 22 = .ok (.invokevirtual 221, 3) := by decide +kernel
theorem dX11_told_25 : decode cX11_told 25 = .ok (.ireturn, 1) := by decide +kernel
theorem dX11_told_26 : decode cX11_told 26 = .ok (.aload_n 0, 1) := by decide +kernel
theorem dX11_told_27 : decode cX11_told 27 = .ok (.getfield 28, 3) := by decide +kernel
theorem dX11_told_30 : decode cX11_told 30 = .ok (.aload_n 2, 1) := by decide +kernel
theorem dX11_told_31 : decode cX11_told 31 = .ok (.invokevirtual 262, 3) := by decide +kernel
theorem dX11_told_34 : decode cX11_told 34 = .ok (.iconst (-1), 1) := by decide +kernel
theorem dX11_told_35 : decode cX11_told 35 = .ok (.if_icmp .ne 14, 3) := by decide +kernel
theorem dX11_told_38 : decode cX11_told 38 = .ok (.aload_n 0, 1) := by decide +kernel
theorem dX11_told_39 : decode cX11_told 39 = .ok (.getfield 28, 3) := by decide +kernel
theorem dX11_told_42 : decode cX11_told 42 = .ok (.aload_n 2, 1) := by decide +kernel
theorem dX11_told_43 : decode cX11_told 43 = .ok (.invokevirtual 265, 3) := by decide +kernel
theorem dX11_told_46 : decode cX11_told 46 = .ok (.goto 9, 3) := by decide +kernel
theorem dX11_told_49 : decode cX11_told 49 = .ok (.aload_n 0, 1) := by decide +kernel
theorem dX11_told_50 : decode cX11_told 50 = .ok (.bipush 6, 2) := by decide +kernel
theorem dX11_told_52 : decode cX11_told 52 = .ok (.invokevirtual 221, 3) := by decide +kernel
theorem dX11_told_55 : decode cX11_told 55 = .ok (.ireturn, 1) := by decide +kernel
theorem dX11_come_0 : decode cX11_come 0 = .ok (.iload_n 1, 1) := by decide +kernel
theorem dX11_come_1 : decode cX11_come 1 = .ok (.invokestatic 256, 3) := by decide +kernel
theorem dX11_come_4 : decode cX11_come 4 = .ok (.ifCond .ne 10, 3) := by decide +kernel
theorem dX11_come_7 : decode cX11_come 7 = .ok (.aload_n 0, 1) := by decide +kernel
theorem dX11_come_8 : decode cX11_come 8 = .ok (.bipush 6, 2) := by decide +kernel
theorem dX11_come_10 : decode cX11_come 10 = .ok (.invokevirtual 63, 3) := by decide +kernel
theorem dX11_come_13 : decode cX11_come 13 = .ok (.ireturn, 1) := by decide +kernel
theorem dX11_come_14 : decode cX11_come 14 = .ok (.iconst 0, 1) := by decide +kernel
theorem dX11_come_15 : decode cX11_come 15 = .ok (.istore_n 2, 1) := by decide +kernel
theorem dX11_come_16 : decode cX11_come 16 = .ok (.iload_n 2, 1) := by decide +kernel
theorem dX11_come_17 : decode cX11_come 17 = .ok (.iload_n 1, 1) := by decide +kernel
theorem dX11_come_18 : decode cX11_come 18 = .ok (.if_icmp .ge 27, 3) := by decide +kernel
theorem dX11_come_21 : decode cX11_come 21 = .ok (.aload_n 0, 1) := by decide +kernel
theorem dX11_come_22 : decode cX11_come 22 = .ok (.getfield 28, 3) := by decide +kernel
theorem dX11_come_25 : decode cX11_come 25 = .ok (.iconst 0, 1) := by decide +kernel
theorem dX11_come_26 : decode cX11_come 26 = .ok (.invokevirtual 130, 3) := by decide +kernel
theorem dX11_come_29 : decode cX11_come 29 = .ok (.ifCond .eq 16, 3) := by decide +kernel
theorem dX11_come_32 : decode cX11_come 32 = .ok (.aload_n 0, 1) := by decide +kernel
theorem dX11_come_33 : decode cX11_come 33 = .ok (.getfield 28, 3) := by decide +kernel
theorem dX11_come_36 : decode cX11_come 36 = .ok (.invokevirtual 268, 3) := by decide +kernel
theorem dX11_come_39 : decode cX11_come 39 = .ok (.iinc 2 1, 3) := by decide +kernel
theorem dX11_come_42 : decode cX11_come 42 = .ok (.goto (-26), 3) := by decide +kernel
theorem dX11_come_45 : decode cX11_come 45 = .ok (.iload_n 2, 1) := by decide +kernel
theorem dX11_come_46 : decode cX11_come 46 = .ok (.ireturn, 1) := by decide +kernel
theorem dX11_clear_0 : decode cX11_clear 0 = .ok (.aload_n 0, 1) := by decide +kernel
theorem dX11_clear_1 : decode cX11_clear 1 = .ok (.getfield 28, 3) := by decide +kernel
theorem dX11_clear_4 : decode cX11_clear 4 = .ok (.invokevirtual 271, 3) := by decide +kernel
theorem dX11_clear_7 : decode cX11_clear 7 = .ok (.ireturn, 1) := by decide +kernel
theorem dX11_seed_0 : decode cX11_seed 0 = .ok (.aload_n 0, 1) := by decide +kernel
theorem dX11_seed_1 : decode cX11_seed 1 = .ok (.getfield 28, 3) := by decide +kernel
theorem dX11_seed_4 : decode cX11_seed 4 = .ok (.invokevirtual 274, 3) := by decide +kernel
theorem dX11_seed_7 : decode cX11_seed 7 = .ok (.istore_n 2, 1) := by decide +kernel
theorem dX11_seed_8 : decode cX11_seed 8 = .ok (.aload_n 0, 1) := by decide +kernel
theorem dX11_seed_9 : decode cX11_seed 9 = .ok (.getfield 28, 3) := by decide +kernel
theorem dX11_seed_12 : decode cX11_seed 12 = .ok (.iload_n 1, 1) := by decide +kernel
theorem dX11_seed_13 : decode cX11_seed 13 = .ok (.invokevirtual 277, 3) := by decide +kernel
theorem dX11_seed_16 : decode cX11_seed 16 = .ok (.iload_n 2, 1) := by decide +kernel
theorem dX11_seed_17 : decode cX11_seed 17 = .ok (.ireturn, 1) := by decide +kernel
theorem dX11_act_0 : decode cX11_act 0 = .ok (.aload_n 0, 1) := by decide +kernel
theorem dX11_act_1 : decode cX11_act 1 = .ok (.getfield 19, 3) := by decide +kernel
theorem dX11_act_4 : decode cX11_act 4 = .ok (.invokevirtual 280, 3) := by decide +kernel
theorem dX11_act_7 : decode cX11_act 7 = .ok (.aload_n 0, 1) := by decide +kernel
theorem dX11_act_8 : decode cX11_act 8 = .ok (.getfield 28, 3) := by decide +kernel
theorem dX11_act_11 : decode cX11_act 11 = .ok (.iload_n 1, 1) := by decide +kernel
theorem dX11_act_12 : decode cX11_act 12 = .ok (.invokevirtual 102, 3) := by decide +kernel
theorem dX11_act_15 : decode cX11_act 15 = .ok (.astore 4, 2) := by decide +kernel
theorem dX11_act_17 : decode cX11_act 17 = .ok (.aload 4, 2) := by decide +kernel
theorem dX11_act_19 : decode cX11_act 19 = .ok (.ifnonnull 5, 3) := by decide +kernel
theorem dX11_act_22 : decode cX11_act 22 = .ok (.iconst 0, 1) := by decide +kernel
theorem dX11_act_23 : decode cX11_act 23 = .ok (.ireturn, 1) := by decide +kernel
theorem dX11_act_24 : decode cX11_act 24 = .ok (.iload_n 2, 1) := by decide +kernel
theorem dX11_act_25 : decode cX11_act 25 = .ok (.tableswitch 48 0 2 #[27, 34, 41], 27) := by decide +kernel
theorem dX11_act_52 : decode cX11_act 52 = .ok (.aload 4, 2) := by decide +kernel
theorem dX11_act_54 : decode cX11_act 54 = .ok (.iload_n 3, 1) := by decide +kernel
theorem dX11_act_55 : decode cX11_act 55 = .ok (.invokevirtual 283, 3) := by decide +kernel
theorem dX11_act_58 : decode cX11_act 58 = .ok (.ireturn, 1) := by decide +kernel
theorem dX11_act_59 : decode cX11_act 59 = .ok (.aload 4, 2) := by decide +kernel
theorem dX11_act_61 : decode cX11_act 61 = .ok (.iload_n 3, 1) := by decide +kernel
theorem dX11_act_62 : decode cX11_act 62 = .ok (.invokevirtual 286, 3) := by decide +kernel
theorem dX11_act_65 : decode cX11_act 65 = .ok (.ireturn, 1) := by decide +kernel
theorem dX11_act_66 : decode cX11_act 66 = .ok (.aload 4, 2) := by decide +kernel
theorem dX11_act_68 : decode cX11_act 68 = .ok (.iload_n 3, 1) := by decide +kernel
theorem dX11_act_69 : decode cX11_act 69 = .ok (.invokevirtual 289, 3) := by decide +kernel
theorem dX11_act_72 : decode cX11_act 72 = .ok (.ireturn, 1) := by decide +kernel
theorem dX11_act_73 : decode cX11_act 73 = .ok (.iconst 0, 1) := by decide +kernel
theorem dX11_act_74 : decode cX11_act 74 = .ok (.ireturn, 1) := by decide +kernel
theorem dX11_trace_0 : decode cX11_trace 0 = .ok (.aload_n 0, 1) := by decide +kernel
theorem dX11_trace_1 : decode cX11_trace 1 = .ok (.getfield 19, 3) := by decide +kernel
theorem dX11_trace_4 : decode cX11_trace 4 = .ok (.iload_n 1, 1) := by decide +kernel
theorem dX11_trace_5 : decode cX11_trace 5 = .ok (.invokevirtual 292, 3) := by decide +kernel
theorem dX11_trace_8 : decode cX11_trace 8 = .ok (.ireturn, 1) := by decide +kernel
theorem dX11_image_0 : decode cX11_image 0 = .ok (.aload_n 0, 1) := by decide +kernel
theorem dX11_image_1 : decode cX11_image 1 = .ok (.getfield 32, 3) := by decide +kernel
theorem dX11_image_4 : decode cX11_image 4 = .ok (.aload_n 0, 1) := by decide +kernel
theorem dX11_image_5 : decode cX11_image 5 = .ok (.getfield 28, 3) := by decide +kernel
theorem dX11_image_8 : decode cX11_image 8 = .ok (.invokevirtual 196, 3) := by decide +kernel
theorem dX11_image_11 : decode cX11_image 11 = .ok (.aload_n 0, 1) := by decide +kernel
theorem dX11_image_12 : decode cX11_image 12 = .ok (.iconst 1, 1) := by decide +kernel
theorem dX11_image_13 : decode cX11_image 13 = .ok (.putfield 51, 3) := by decide +kernel
theorem dX11_image_16 : decode cX11_image 16 = .ok (.aload_n 0, 1) := by decide +kernel
theorem dX11_image_17 : decode cX11_image 17 = .ok (.getfield 28, 3) := by decide +kernel
theorem dX11_image_20 : decode cX11_image 20 = .ok (.invokevirtual 295, 3) := by decide +kernel
theorem dX11_image_23 : decode cX11_image 23 = .ok (.ireturn, 1) := by decide +kernel
theorem dX11_restore_0 : decode cX11_restore 0 = .ok (.aload_n 0, 1) := by decide +kernel
theorem dX11_restore_1 : decode cX11_restore 1 = .ok (.getfield 51, 3) := by decide +kernel
theorem dX11_restore_4 : decode cX11_restore 4 = .ok (.ifCond .ne 10, 3) := by decide +kernel
theorem dX11_restore_7 : decode cX11_restore 7 = .ok (.aload_n 0, 1) := by decide +kernel
theorem dX11_restore_8 : decode cX11_restore 8 = .ok (.bipush 6, 2) := by decide +kernel
theorem dX11_restore_10 : decode cX11_restore 10 = .ok (.invokevirtual 63, 3) := by decide +kernel
theorem dX11_restore_13 : decode cX11_restore 13 = .ok (.ireturn, 1) := by decide +kernel
theorem dX11_restore_14 : decode cX11_restore 14 = .ok (.aload_n 0, 1) := by decide +kernel
theorem dX11_restore_15 : decode cX11_restore 15 = .ok (.getfield 28, 3) := by decide +kernel
theorem dX11_restore_18 : decode cX11_restore 18 = .ok (.aload_n 0, 1) := by decide +kernel
theorem dX11_restore_19 : decode cX11_restore 19 = .ok (.getfield 32, 3) := by decide +kernel
theorem dX11_restore_22 : decode cX11_restore 22 = .ok (.invokevirtual 196, 3) := by decide +kernel
theorem dX11_restore_25 : decode cX11_restore 25 = .ok (.iconst 0, 1) := by decide +kernel
theorem dX11_restore_26 : decode cX11_restore 26 = .ok (.istore_n 1, 1) := by decide +kernel
theorem dX11_restore_27 : decode cX11_restore 27 = .ok (.iload_n 1, 1) := by decide +kernel
theorem dX11_restore_28 : decode cX11_restore 28 = .ok (.aload_n 0, 1) := by decide +kernel
theorem dX11_restore_29 : decode cX11_restore 29 = .ok (.getfield 11, 3) := by decide +kernel
theorem dX11_restore_32 : decode cX11_restore 32 = .ok (.arraylength, 1) := by decide +kernel
theorem dX11_restore_33 : decode cX11_restore 33 = .ok (.if_icmp .ge 45, 3) := by decide +kernel
theorem dX11_restore_36 : decode cX11_restore 36 = .ok (.aload_n 0, 1) := by decide +kernel
theorem dX11_restore_37 : decode cX11_restore 37 = .ok (.iload_n 1, 1) := by decide +kernel
theorem dX11_restore_38 : decode cX11_restore 38 = .ok (.invokevirtual 59, 3) := by decide +kernel
theorem dX11_restore_41 : decode cX11_restore 41 = .ok (.astore_n 2, 1) := by decide +kernel
theorem dX11_restore_42 : decode cX11_restore 42 = .ok (.aload_n 2, 1) := by decide +kernel
theorem dX11_restore_43 : decode cX11_restore 43 = .ok (.ifnull 29, 3) := by decide +kernel
theorem dX11_restore_46 : decode cX11_restore 46 = .ok (.aload_n 2, 1) := by decide +kernel
theorem dX11_restore_47 : decode cX11_restore 47 = .ok (.invokevirtual 87, 3) := by decide +kernel
theorem dX11_restore_50 : decode cX11_restore 50 = .ok (.ifCond .eq 22, 3) := by decide +kernel
theorem dX11_restore_53 : decode cX11_restore 53 = .ok (.aload_n 0, 1) := by decide +kernel
theorem dX11_restore_54 : decode cX11_restore 54 = .ok (.getfield 28, 3) := by decide +kernel
theorem dX11_restore_57 : decode cX11_restore 57 = .ok (.aload_n 2, 1) := by decide +kernel
theorem dX11_restore_58 : decode cX11_restore 58 = .ok (.invokevirtual 114, 3) := by decide +kernel
theorem dX11_restore_61 : decode cX11_restore 61 = .ok (.invokevirtual 102, 3) := by decide +kernel
theorem dX11_restore_64 : decode cX11_restore 64 = .ok (.ifnonnull 8, 3) := by decide +kernel
theorem dX11_restore_67 : decode cX11_restore 67 = .ok (.aload_n 2, 1) := by decide +kernel
theorem dX11_restore_68 : decode cX11_restore 68 = .ok (.iconst (-1), 1) := by decide +kernel
theorem dX11_restore_69 : decode cX11_restore 69 = .ok (.invokevirtual 106, 3) := by decide +kernel
theorem dX11_restore_72 : decode cX11_restore 72 = .ok (.iinc 1 1, 3) := by decide +kernel
theorem dX11_restore_75 : decode cX11_restore 75 = .ok (.goto (-48), 3) := by decide +kernel
theorem dX11_restore_78 : decode cX11_restore 78 = .ok (.aload_n 0, 1) := by decide +kernel
theorem dX11_restore_79 : decode cX11_restore 79 = .ok (.getfield 28, 3) := by decide +kernel
theorem dX11_restore_82 : decode cX11_restore 82 = .ok (.invokevirtual 295, 3) := by decide +kernel
theorem dX11_restore_85 : decode cX11_restore 85 = .ok (.ireturn, 1) := by decide +kernel
theorem dX11_status_0 : decode cX11_status 0 = .ok (.iload_n 1, 1) := by decide +kernel
theorem dX11_status_1 : decode cX11_status 1 = .ok (.tableswitch 99 0 6 #[43, 51, 59, 67, 75, 83, 91], 43) := by decide +kernel
theorem dX11_status_44 : decode cX11_status 44 = .ok (.aload_n 0, 1) := by decide +kernel
theorem dX11_status_45 : decode cX11_status 45 = .ok (.getfield 28, 3) := by decide +kernel
theorem dX11_status_48 : decode cX11_status 48 = .ok (.invokevirtual 243, 3) := by decide +kernel
theorem dX11_status_51 : decode cX11_status 51 = .ok (.ireturn, 1) := by decide +kernel
theorem dX11_status_52 : decode cX11_status 52 = .ok (.aload_n 0, 1) := by decide +kernel
theorem dX11_status_53 : decode cX11_status 53 = .ok (.getfield 28, 3) := by decide +kernel
theorem dX11_status_56 : decode cX11_status 56 = .ok (.invokevirtual 207, 3) := by decide +kernel
theorem dX11_status_59 : decode cX11_status 59 = .ok (.ireturn, 1) := by decide +kernel
theorem dX11_status_60 : decode cX11_status 60 = .ok (.aload_n 0, 1) := by decide +kernel
theorem dX11_status_61 : decode cX11_status 61 = .ok (.getfield 28, 3) := by decide +kernel
theorem dX11_status_64 : decode cX11_status 64 = .ok (.invokevirtual 295, 3) := by decide +kernel
theorem dX11_status_67 : decode cX11_status 67 = .ok (.ireturn, 1) := by decide +kernel
theorem dX11_status_68 : decode cX11_status 68 = .ok (.aload_n 0, 1) := by decide +kernel
theorem dX11_status_69 : decode cX11_status 69 = .ok (.getfield 28, 3) := by decide +kernel
theorem dX11_status_72 : decode cX11_status 72 = .ok (.invokevirtual 298, 3) := by decide +kernel
theorem dX11_status_75 : decode cX11_status 75 = .ok (.ireturn, 1) := by decide +kernel
theorem dX11_status_76 : decode cX11_status 76 = .ok (.aload_n 0, 1) := by decide +kernel
theorem dX11_status_77 : decode cX11_status 77 = .ok (.getfield 28, 3) := by decide +kernel
theorem dX11_status_80 : decode cX11_status 80 = .ok (.invokevirtual 301, 3) := by decide +kernel
theorem dX11_status_83 : decode cX11_status 83 = .ok (.ireturn, 1) := by decide +kernel
theorem dX11_status_84 : decode cX11_status 84 = .ok (.aload_n 0, 1) := by decide +kernel
theorem dX11_status_85 : decode cX11_status 85 = .ok (.getfield 28, 3) := by decide +kernel
theorem dX11_status_88 : decode cX11_status 88 = .ok (.invokevirtual 274, 3) := by decide +kernel
theorem dX11_status_91 : decode cX11_status 91 = .ok (.ireturn, 1) := by decide +kernel
theorem dX11_status_92 : decode cX11_status 92 = .ok (.aload_n 0, 1) := by decide +kernel
theorem dX11_status_93 : decode cX11_status 93 = .ok (.getfield 19, 3) := by decide +kernel
theorem dX11_status_96 : decode cX11_status 96 = .ok (.invokevirtual 304, 3) := by decide +kernel
theorem dX11_status_99 : decode cX11_status 99 = .ok (.ireturn, 1) := by decide +kernel
theorem dX11_status_100 : decode cX11_status 100 = .ok (.iload_n 1, 1) := by decide +kernel
theorem dX11_status_101 : decode cX11_status 101 = .ok (.bipush 10, 2) := by decide +kernel
theorem dX11_status_103 : decode cX11_status 103 = .ok (.if_icmp .le 21, 3) := by decide +kernel
theorem dX11_status_106 : decode cX11_status 106 = .ok (.iload_n 1, 1) := by decide +kernel
theorem dX11_status_107 : decode cX11_status 107 = .ok (.bipush 17, 2) := by decide +kernel
theorem dX11_status_109 : decode cX11_status 109 = .ok (.if_icmp .gt 15, 3) := by decide +kernel
theorem dX11_status_112 : decode cX11_status 112 = .ok (.aload_n 0, 1) := by decide +kernel
theorem dX11_status_113 : decode cX11_status 113 = .ok (.getfield 44, 3) := by decide +kernel
theorem dX11_status_116 : decode cX11_status 116 = .ok (.iload_n 1, 1) := by decide +kernel
theorem dX11_status_117 : decode cX11_status 117 = .ok (.bipush 10, 2) := by decide +kernel
theorem dX11_status_119 : decode cX11_status 119 = .ok (.isub, 1) := by decide +kernel
theorem dX11_status_120 : decode cX11_status 120 = .ok (.iaload, 1) := by decide +kernel
theorem dX11_status_121 : decode cX11_status 121 = .ok (.goto 4, 3) := by decide +kernel
theorem dX11_status_124 : decode cX11_status 124 = .ok (.iconst (-1), 1) := by decide +kernel
theorem dX11_status_125 : decode cX11_status 125 = .ok (.ireturn, 1) := by decide +kernel
theorem dX11_shelfAt_0 : decode cX11_shelfAt 0 = .ok (.iload_n 1, 1) := by decide +kernel
theorem dX11_shelfAt_1 : decode cX11_shelfAt 1 = .ok (.ifCond .lt 12, 3) := by decide +kernel
theorem dX11_shelfAt_4 : decode cX11_shelfAt 4 = .ok (.iload_n 1, 1) := by decide +kernel
theorem dX11_shelfAt_5 : decode cX11_shelfAt 5 = .ok (.aload_n 0, 1) := by decide +kernel
theorem dX11_shelfAt_6 : decode cX11_shelfAt 6 = .ok (.getfield 11, 3) := by decide +kernel
theorem dX11_shelfAt_9 : decode cX11_shelfAt 9 = .ok (.arraylength, 1) := by decide +kernel
theorem dX11_shelfAt_10 : decode cX11_shelfAt 10 = .ok (.if_icmp .lt 7, 3) := by decide +kernel
theorem dX11_shelfAt_13 : decode cX11_shelfAt 13 = .ok (.aconst_null, 1) := by decide +kernel
theorem dX11_shelfAt_14 : decode cX11_shelfAt 14 = .ok (.goto 9, 3) := by decide +kernel
theorem dX11_shelfAt_17 : decode cX11_shelfAt 17 = .ok (.aload_n 0, 1) := by decide +kernel
theorem dX11_shelfAt_18 : decode cX11_shelfAt 18 = .ok (.getfield 11, 3) := by decide +kernel
theorem dX11_shelfAt_21 : decode cX11_shelfAt 21 = .ok (.iload_n 1, 1) := by decide +kernel
theorem dX11_shelfAt_22 : decode cX11_shelfAt 22 = .ok (.aaload, 1) := by decide +kernel
theorem dX11_shelfAt_23 : decode cX11_shelfAt 23 = .ok (.areturn, 1) := by decide +kernel
theorem dX11_whyNoRow_0 : decode cX11_whyNoRow 0 = .ok (.aload_n 0, 1) := by decide +kernel
theorem dX11_whyNoRow_1 : decode cX11_whyNoRow 1 = .ok (.ifnonnull 5, 3) := by decide +kernel
theorem dX11_whyNoRow_4 : decode cX11_whyNoRow 4 = .ok (.iconst 1, 1) := by decide +kernel
theorem dX11_whyNoRow_5 : decode cX11_whyNoRow 5 = .ok (.ireturn, 1) := by decide +kernel
theorem dX11_whyNoRow_6 : decode cX11_whyNoRow 6 = .ok (.aload_n 0, 1) := by decide +kernel
theorem dX11_whyNoRow_7 : decode cX11_whyNoRow 7 = .ok (.invokevirtual 87, 3) := by decide +kernel
theorem dX11_whyNoRow_10 : decode cX11_whyNoRow 10 = .ok (.ifCond .eq 7, 3) := by decide +kernel
theorem dX11_whyNoRow_13 : decode cX11_whyNoRow 13 = .ok (.iconst 2, 1) := by decide +kernel
theorem dX11_whyNoRow_14 : decode cX11_whyNoRow 14 = .ok (.goto 4, 3) := by decide +kernel
theorem dX11_whyNoRow_17 : decode cX11_whyNoRow 17 = .ok (.iconst 3, 1) := by decide +kernel
theorem dX11_whyNoRow_18 : decode cX11_whyNoRow 18 = .ok (.ireturn, 1) := by decide +kernel
theorem dX11_refuse_0 : decode cX11_refuse 0 = .ok (.iload_n 1, 1) := by decide +kernel
theorem dX11_refuse_1 : decode cX11_refuse 1 = .ok (.ifCond .lt 22, 3) := by decide +kernel
theorem dX11_refuse_4 : decode cX11_refuse 4 = .ok (.iload_n 1, 1) := by decide +kernel
theorem dX11_refuse_5 : decode cX11_refuse 5 = .ok (.aload_n 0, 1) := by decide +kernel
theorem dX11_refuse_6 : decode cX11_refuse 6 = .ok (.getfield 44, 3) := by decide +kernel
theorem dX11_refuse_9 : decode cX11_refuse 9 = .ok (.arraylength, 1) := by decide +kernel
theorem dX11_refuse_10 : decode cX11_refuse 10 = .ok (.if_icmp .ge 13, 3) := by decide +kernel
theorem dX11_refuse_13 : decode cX11_refuse 13 = .ok (.aload_n 0, 1) := by decide +kernel
theorem dX11_refuse_14 : decode cX11_refuse 14 = .ok (.getfield 44, 3) := by decide +kernel
theorem dX11_refuse_17 : decode cX11_refuse 17 = .ok (.iload_n 1, 1) := by decide +kernel
theorem dX11_refuse_18 : decode cX11_refuse 18 = .ok (.dup2, 1) := by decide +kernel
theorem dX11_refuse_19 : decode cX11_refuse 19 = .ok (.iaload, 1) := by decide +kernel
theorem dX11_refuse_20 : decode cX11_refuse 20 = .ok (.iconst 1, 1) := by decide +kernel
theorem dX11_refuse_21 : decode cX11_refuse 21 = .ok (.iadd, 1) := by decide +kernel
theorem dX11_refuse_22 : decode cX11_refuse 22 = .ok (.iastore, 1) := by decide +kernel
theorem dX11_refuse_23 : decode cX11_refuse 23 = .ok (.iload_n 1, 1) := by decide +kernel
theorem dX11_refuse_24 : decode cX11_refuse 24 = .ok (.ineg, 1) := by decide +kernel
theorem dX11_refuse_25 : decode cX11_refuse 25 = .ok (.ireturn, 1) := by decide +kernel
theorem dX11_refuseFar_0 : decode cX11_refuseFar 0 = .ok (.aload_n 0, 1) := by decide +kernel
theorem dX11_refuseFar_1 : decode cX11_refuseFar 1 = .ok (.iload_n 1, 1) := by decide +kernel
theorem dX11_refuseFar_2 : decode cX11_refuseFar 2 = .ok (.invokevirtual 63, 3) := by decide +kernel
theorem dX11_refuseFar_5 : decode cX11_refuseFar 5 = .ok (.sipush 1000, 3) := by decide +kernel
theorem dX11_refuseFar_8 : decode cX11_refuseFar 8 = .ok (.isub, 1) := by decide +kernel
theorem dX11_refuseFar_9 : decode cX11_refuseFar 9 = .ok (.ireturn, 1) := by decide +kernel
theorem dX11_isUpTo_0 : decode cX11_isUpTo 0 = .ok (.iload_n 0, 1) := by decide +kernel
theorem dX11_isUpTo_1 : decode cX11_isUpTo 1 = .ok (.ifCond .lt 12, 3) := by decide +kernel
theorem dX11_isUpTo_4 : decode cX11_isUpTo 4 = .ok (.iload_n 0, 1) := by decide +kernel
theorem dX11_isUpTo_5 : decode cX11_isUpTo 5 = .ok (.iload_n 1, 1) := by decide +kernel
theorem dX11_isUpTo_6 : decode cX11_isUpTo 6 = .ok (.if_icmp .gt 7, 3) := by decide +kernel
theorem dX11_isUpTo_9 : decode cX11_isUpTo 9 = .ok (.iconst 1, 1) := by decide +kernel
theorem dX11_isUpTo_10 : decode cX11_isUpTo 10 = .ok (.goto 4, 3) := by decide +kernel
theorem dX11_isUpTo_13 : decode cX11_isUpTo 13 = .ok (.iconst 0, 1) := by decide +kernel
theorem dX11_isUpTo_14 : decode cX11_isUpTo 14 = .ok (.ireturn, 1) := by decide +kernel
theorem dX11_isNumberOfComers_0 : decode cX11_isNumberOfComers 0 = .ok (.iload_n 0, 1) := by decide +kernel
theorem dX11_isNumberOfComers_1 : decode cX11_isNumberOfComers 1 = .ok (.iconst 1, 1) := by decide +kernel
theorem dX11_isNumberOfComers_2 : decode cX11_isNumberOfComers 2 = .ok (.if_icmp .lt 13, 3) := by decide +kernel
theorem dX11_isNumberOfComers_5 : decode cX11_isNumberOfComers 5 = .ok (.iload_n 0, 1) := by decide +kernel
theorem dX11_isNumberOfComers_6 : decode cX11_isNumberOfComers 6 = .ok (.bipush 8, 2) := by decide +kernel
theorem dX11_isNumberOfComers_8 : decode cX11_isNumberOfComers 8 = .ok (.if_icmp .gt 7, 3) := by decide +kernel
theorem dX11_isNumberOfComers_11 : decode cX11_isNumberOfComers 11 = .ok (.iconst 1, 1) := by decide +kernel
theorem dX11_isNumberOfComers_12 : decode cX11_isNumberOfComers 12 = .ok (.goto 4, 3) := by decide +kernel
theorem dX11_isNumberOfComers_15 : decode cX11_isNumberOfComers 15 = .ok (.iconst 0, 1) := by decide +kernel
theorem dX11_isNumberOfComers_16 : decode cX11_isNumberOfComers 16 = .ok (.ireturn, 1) := by decide +kernel
theorem dX11_saysAs_0 : decode cX11_saysAs 0 = .ok (.iload_n 2, 1) := by decide +kernel
theorem dX11_saysAs_1 : decode cX11_saysAs 1 = .ok (.ifCond .ne 8, 3) := by decide +kernel
theorem dX11_saysAs_4 : decode cX11_saysAs 4 = .ok (.aload_n 1, 1) := by decide +kernel
theorem dX11_saysAs_5 : decode cX11_saysAs 5 = .ok (.getfield 172, 3) := by decide +kernel
theorem dX11_saysAs_8 : decode cX11_saysAs 8 = .ok (.ireturn, 1) := by decide +kernel
theorem dX11_saysAs_9 : decode cX11_saysAs 9 = .ok (.iload_n 2, 1) := by decide +kernel
theorem dX11_saysAs_10 : decode cX11_saysAs 10 = .ok (.iconst 1, 1) := by decide +kernel
theorem dX11_saysAs_11 : decode cX11_saysAs 11 = .ok (.if_icmp .ne 20, 3) := by decide +kernel
theorem dX11_saysAs_14 : decode cX11_saysAs 14 = .ok (.aload_n 1, 1) := by decide +kernel
theorem dX11_saysAs_15 : decode cX11_saysAs 15 = .ok (.instanceof 307, 3) := by decide +kernel
theorem dX11_saysAs_18 : decode cX11_saysAs 18 = .ok (.ifCond .eq 13, 3) := by decide +kernel
theorem dX11_saysAs_21 : decode cX11_saysAs 21 = .ok (.aload_n 1, 1) := by decide +kernel
theorem dX11_saysAs_22 : decode cX11_saysAs 22 = .ok (.checkcast 307, 3) := by decide +kernel
theorem dX11_saysAs_25 : decode cX11_saysAs 25 = .ok (.astore_n 3, 1) := by decide +kernel
theorem dX11_saysAs_26 : decode cX11_saysAs 26 = .ok (.aload_n 3, 1) := by decide +kernel
theorem dX11_saysAs_27 : decode cX11_saysAs 27 = .ok (.invokevirtual 309, 3) := by decide +kernel
theorem dX11_saysAs_30 : decode cX11_saysAs 30 = .ok (.ireturn, 1) := by decide +kernel
theorem dX11_saysAs_31 : decode cX11_saysAs 31 = .ok (.iload_n 2, 1) := by decide +kernel
theorem dX11_saysAs_32 : decode cX11_saysAs 32 = .ok (.iconst 2, 1) := by decide +kernel
theorem dX11_saysAs_33 : decode cX11_saysAs 33 = .ok (.if_icmp .ne 20, 3) := by decide +kernel
theorem dX11_saysAs_36 : decode cX11_saysAs 36 = .ok (.aload_n 1, 1) := by decide +kernel
theorem dX11_saysAs_37 : decode cX11_saysAs 37 = .ok (.instanceof 312, 3) := by decide +kernel
theorem dX11_saysAs_40 : decode cX11_saysAs 40 = .ok (.ifCond .eq 13, 3) := by decide +kernel
theorem dX11_saysAs_43 : decode cX11_saysAs 43 = .ok (.aload_n 1, 1) := by decide +kernel
theorem dX11_saysAs_44 : decode cX11_saysAs 44 = .ok (.checkcast 312, 3) := by decide +kernel
theorem dX11_saysAs_47 : decode cX11_saysAs 47 = .ok (.astore_n 3, 1) := by decide +kernel
theorem dX11_saysAs_48 : decode cX11_saysAs 48 = .ok (.aload_n 3, 1) := by decide +kernel
theorem dX11_saysAs_49 : decode cX11_saysAs 49 = .ok (.invokevirtual 314, 3) := by decide +kernel
theorem dX11_saysAs_52 : decode cX11_saysAs 52 = .ok (.ireturn, 1) := by decide +kernel
theorem dX11_saysAs_53 : decode cX11_saysAs 53 = .ok (.iload_n 2, 1) := by decide +kernel
theorem dX11_saysAs_54 : decode cX11_saysAs 54 = .ok (.iconst 3, 1) := by decide +kernel
theorem dX11_saysAs_55 : decode cX11_saysAs 55 = .ok (.if_icmp .ne 20, 3) := by decide +kernel
theorem dX11_saysAs_58 : decode cX11_saysAs 58 = .ok (.aload_n 1, 1) := by decide +kernel
theorem dX11_saysAs_59 : decode cX11_saysAs 59 = .ok (.instanceof 315, 3) := by decide +kernel
theorem dX11_saysAs_62 : decode cX11_saysAs 62 = .ok (.ifCond .eq 13, 3) := by decide +kernel
theorem dX11_saysAs_65 : decode cX11_saysAs 65 = .ok (.aload_n 1, 1) := by decide +kernel
theorem dX11_saysAs_66 : decode cX11_saysAs 66 = .ok (.checkcast 315, 3) := by decide +kernel
theorem dX11_saysAs_69 : decode cX11_saysAs 69 = .ok (.astore_n 3, 1) := by decide +kernel
theorem dX11_saysAs_70 : decode cX11_saysAs 70 = .ok (.aload_n 3, 1) := by decide +kernel
theorem dX11_saysAs_71 : decode cX11_saysAs 71 = .ok (.invokevirtual 317, 3) := by decide +kernel
theorem dX11_saysAs_74 : decode cX11_saysAs 74 = .ok (.ireturn, 1) := by decide +kernel
theorem dX11_saysAs_75 : decode cX11_saysAs 75 = .ok (.iload_n 2, 1) := by decide +kernel
theorem dX11_saysAs_76 : decode cX11_saysAs 76 = .ok (.iconst 4, 1) := by decide +kernel
theorem dX11_saysAs_77 : decode cX11_saysAs 77 = .ok (.if_icmp .ne 27, 3) := by decide +kernel
theorem dX11_saysAs_80 : decode cX11_saysAs 80 = .ok (.aload_n 1, 1) := by decide +kernel
theorem dX11_saysAs_81 : decode cX11_saysAs 81 = .ok (.instanceof 320, 3) := by decide +kernel
theorem dX11_saysAs_84 : decode cX11_saysAs 84 = .ok (.ifCond .eq 20, 3) := by decide +kernel
theorem dX11_saysAs_87 : decode cX11_saysAs 87 = .ok (.aload_n 1, 1) := by decide +kernel
theorem dX11_saysAs_88 : decode cX11_saysAs 88 = .ok (.checkcast 320, 3) := by decide +kernel
theorem dX11_saysAs_91 : decode cX11_saysAs 91 = .ok (.astore_n 3, 1) := by decide +kernel
theorem dX11_saysAs_92 : decode cX11_saysAs 92 = .ok (.aload_n 0, 1) := by decide +kernel
theorem dX11_saysAs_93 : decode cX11_saysAs 93 = .ok (.getfield 28, 3) := by decide +kernel
theorem dX11_saysAs_96 : decode cX11_saysAs 96 = .ok (.aload_n 3, 1) := by decide +kernel
theorem dX11_saysAs_97 : decode cX11_saysAs 97 = .ok (.getfield 322, 3) := by decide +kernel
theorem dX11_saysAs_100 : decode cX11_saysAs 100 = .ok (.invokevirtual 323, 3) := by decide +kernel
theorem dX11_saysAs_103 : decode cX11_saysAs 103 = .ok (.ireturn, 1) := by decide +kernel
theorem dX11_saysAs_104 : decode cX11_saysAs 104 = .ok (.iload_n 2, 1) := by decide +kernel
theorem dX11_saysAs_105 : decode cX11_saysAs 105 = .ok (.iconst 5, 1) := by decide +kernel
theorem dX11_saysAs_106 : decode cX11_saysAs 106 = .ok (.if_icmp .ne 19, 3) := by decide +kernel
theorem dX11_saysAs_109 : decode cX11_saysAs 109 = .ok (.aload_n 1, 1) := by decide +kernel
theorem dX11_saysAs_110 : decode cX11_saysAs 110 = .ok (.instanceof 326, 3) := by decide +kernel
theorem dX11_saysAs_113 : decode cX11_saysAs 113 = .ok (.ifCond .eq 12, 3) := by decide +kernel
theorem dX11_saysAs_116 : decode cX11_saysAs 116 = .ok (.aload_n 0, 1) := by decide +kernel
theorem dX11_saysAs_117 : decode cX11_saysAs 117 = .ok (.getfield 28, 3) := by decide +kernel
theorem dX11_saysAs_120 : decode cX11_saysAs 120 = .ok (.iconst 5, 1) := by decide +kernel
theorem dX11_saysAs_121 : decode cX11_saysAs 121 = .ok (.invokevirtual 218, 3) := by decide +kernel
theorem dX11_saysAs_124 : decode cX11_saysAs 124 = .ok (.ireturn, 1) := by decide +kernel
theorem dX11_saysAs_125 : decode cX11_saysAs 125 = .ok (.iload_n 2, 1) := by decide +kernel
theorem dX11_saysAs_126 : decode cX11_saysAs 126 = .ok (.bipush 6, 2) := by decide +kernel
theorem dX11_saysAs_128 : decode cX11_saysAs 128 = .ok (.if_icmp .ne 41, 3) := by decide +kernel
theorem dX11_saysAs_131 : decode cX11_saysAs 131 = .ok (.aload_n 1, 1) := by decide +kernel
theorem dX11_saysAs_132 : decode cX11_saysAs 132 = .ok (.instanceof 328, 3) := by decide +kernel
theorem dX11_saysAs_135 : decode cX11_saysAs 135 = .ok (.ifCond .eq 34, 3) := by decide +kernel
theorem dX11_saysAs_138 : decode cX11_saysAs 138 = .ok (.aload_n 1, 1) := by decide +kernel
theorem dX11_saysAs_139 : decode cX11_saysAs 139 = .ok (.checkcast 328, 3) := by decide +kernel
theorem dX11_saysAs_142 : decode cX11_saysAs 142 = .ok (.astore_n 3, 1) := by decide +kernel
theorem dX11_saysAs_143 : decode cX11_saysAs 143 = .ok (.aload_n 0, 1) := by decide +kernel
theorem dX11_saysAs_144 : decode cX11_saysAs 144 = .ok (.getfield 28, 3) := by decide +kernel
theorem dX11_saysAs_147 : decode cX11_saysAs 147 = .ok (.aload_n 3, 1) := by decide +kernel
theorem dX11_saysAs_148 : decode cX11_saysAs 148 = .ok (.invokevirtual 330, 3) := by decide +kernel
theorem dX11_saysAs_151 : decode cX11_saysAs 151 = .ok (.aload_n 0, 1) := by decide +kernel
theorem dX11_saysAs_152 : decode cX11_saysAs 152 = .ok (.getfield 28, 3) := by decide +kernel
theorem dX11_saysAs_155 : decode cX11_saysAs 155 = .ok (.aload_n 3, 1) := by decide +kernel
theorem dX11_saysAs_156 : decode cX11_saysAs 156 = .ok (.iconst 1, 1) := by decide +kernel
theorem dX11_saysAs_157 : decode cX11_saysAs 157 = .ok (.invokevirtual 214, 3) := by decide +kernel
theorem dX11_saysAs_160 : decode cX11_saysAs 160 = .ok (.if_icmp .ne 7, 3) := by decide +kernel
theorem dX11_saysAs_163 : decode cX11_saysAs 163 = .ok (.iconst 0, 1) := by decide +kernel
theorem dX11_saysAs_164 : decode cX11_saysAs 164 = .ok (.goto 4, 3) := by decide +kernel
theorem dX11_saysAs_167 : decode cX11_saysAs 167 = .ok (.iconst 1, 1) := by decide +kernel
theorem dX11_saysAs_168 : decode cX11_saysAs 168 = .ok (.ireturn, 1) := by decide +kernel
theorem dX11_saysAs_169 : decode cX11_saysAs 169 = .ok (.aload_n 0, 1) := by decide +kernel
theorem dX11_saysAs_170 : decode cX11_saysAs 170 = .ok (.iconst 2, 1) := by decide +kernel
theorem dX11_saysAs_171 : decode cX11_saysAs 171 = .ok (.invokevirtual 63, 3) := by decide +kernel
theorem dX11_saysAs_174 : decode cX11_saysAs 174 = .ok (.ireturn, 1) := by decide +kernel
theorem dX11_ordersWon_0 : decode cX11_ordersWon 0 = .ok (.iload_n 0, 1) := by decide +kernel
theorem dX11_ordersWon_1 : decode cX11_ordersWon 1 = .ok (.iconst 1, 1) := by decide +kernel
theorem dX11_ordersWon_2 : decode cX11_ordersWon 2 = .ok (.isub, 1) := by decide +kernel
theorem dX11_ordersWon_3 : decode cX11_ordersWon 3 = .ok (.invokestatic 334, 3) := by decide +kernel
theorem dX11_ordersWon_6 : decode cX11_ordersWon 6 = .ok (.istore_n 2, 1) := by decide +kernel
theorem dX11_ordersWon_7 : decode cX11_ordersWon 7 = .ok (.iload_n 1, 1) := by decide +kernel
theorem dX11_ordersWon_8 : decode cX11_ordersWon 8 = .ok (.ifCond .ne 5, 3) := by decide +kernel
theorem dX11_ordersWon_11 : decode cX11_ordersWon 11 = .ok (.iload_n 2, 1) := by decide +kernel
theorem dX11_ordersWon_12 : decode cX11_ordersWon 12 = .ok (.ireturn, 1) := by decide +kernel
theorem dX11_ordersWon_13 : decode cX11_ordersWon 13 = .ok (.iconst 0, 1) := by decide +kernel
theorem dX11_ordersWon_14 : decode cX11_ordersWon 14 = .ok (.istore_n 3, 1) := by decide +kernel
theorem dX11_ordersWon_15 : decode cX11_ordersWon 15 = .ok (.iload_n 1, 1) := by decide +kernel
theorem dX11_ordersWon_16 : decode cX11_ordersWon 16 = .ok (.istore 4, 2) := by decide +kernel
theorem dX11_ordersWon_18 : decode cX11_ordersWon 18 = .ok (.iload 4, 2) := by decide +kernel
theorem dX11_ordersWon_20 : decode cX11_ordersWon 20 = .ok (.iload_n 0, 1) := by decide +kernel
theorem dX11_ordersWon_21 : decode cX11_ordersWon 21 = .ok (.if_icmp .ge 27, 3) := by decide +kernel
theorem dX11_ordersWon_24 : decode cX11_ordersWon 24 = .ok (.iload_n 3, 1) := by decide +kernel
theorem dX11_ordersWon_25 : decode cX11_ordersWon 25 = .ok (.iload 4, 2) := by decide +kernel
theorem dX11_ordersWon_27 : decode cX11_ordersWon 27 = .ok (.ifCond .le 12, 3) := by decide +kernel
theorem dX11_ordersWon_30 : decode cX11_ordersWon 30 = .ok (.iload_n 2, 1) := by decide +kernel
theorem dX11_ordersWon_31 : decode cX11_ordersWon 31 = .ok (.iload 4, 2) := by decide +kernel
theorem dX11_ordersWon_33 : decode cX11_ordersWon 33 = .ok (.idiv, 1) := by decide +kernel
theorem dX11_ordersWon_34 : decode cX11_ordersWon 34 = .ok (.iload_n 1, 1) := by decide +kernel
theorem dX11_ordersWon_35 : decode cX11_ordersWon 35 = .ok (.imul, 1) := by decide +kernel
theorem dX11_ordersWon_36 : decode cX11_ordersWon 36 = .ok (.goto 4, 3) := by decide +kernel
theorem dX11_ordersWon_39 : decode cX11_ordersWon 39 = .ok (.iconst 0, 1) := by decide +kernel
theorem dX11_ordersWon_40 : decode cX11_ordersWon 40 = .ok (.iadd, 1) := by decide +kernel
theorem dX11_ordersWon_41 : decode cX11_ordersWon 41 = .ok (.istore_n 3, 1) := by decide +kernel
theorem dX11_ordersWon_42 : decode cX11_ordersWon 42 = .ok (.iinc 4 1, 3) := by decide +kernel
theorem dX11_ordersWon_45 : decode cX11_ordersWon 45 = .ok (.goto (-27), 3) := by decide +kernel
theorem dX11_ordersWon_48 : decode cX11_ordersWon 48 = .ok (.iload_n 3, 1) := by decide +kernel
theorem dX11_ordersWon_49 : decode cX11_ordersWon 49 = .ok (.ireturn, 1) := by decide +kernel
theorem dX11_factorial_0 : decode cX11_factorial 0 = .ok (.iconst 1, 1) := by decide +kernel
theorem dX11_factorial_1 : decode cX11_factorial 1 = .ok (.istore_n 1, 1) := by decide +kernel
theorem dX11_factorial_2 : decode cX11_factorial 2 = .ok (.iconst 2, 1) := by decide +kernel
theorem dX11_factorial_3 : decode cX11_factorial 3 = .ok (.istore_n 2, 1) := by decide +kernel
theorem dX11_factorial_4 : decode cX11_factorial 4 = .ok (.iload_n 2, 1) := by decide +kernel
theorem dX11_factorial_5 : decode cX11_factorial 5 = .ok (.iload_n 0, 1) := by decide +kernel
theorem dX11_factorial_6 : decode cX11_factorial 6 = .ok (.if_icmp .gt 19, 3) := by decide +kernel
theorem dX11_factorial_9 : decode cX11_factorial 9 = .ok (.iload_n 2, 1) := by decide +kernel
theorem dX11_factorial_10 : decode cX11_factorial 10 = .ok (.bipush 8, 2) := by decide +kernel
theorem dX11_factorial_12 : decode cX11_factorial 12 = .ok (.if_icmp .gt 13, 3) := by decide +kernel
theorem dX11_factorial_15 : decode cX11_factorial 15 = .ok (.iload_n 1, 1) := by decide +kernel
theorem dX11_factorial_16 : decode cX11_factorial 16 = .ok (.iload_n 2, 1) := by decide +kernel
theorem dX11_factorial_17 : decode cX11_factorial 17 = .ok (.imul, 1) := by decide +kernel
theorem dX11_factorial_18 : decode cX11_factorial 18 = .ok (.istore_n 1, 1) := by decide +kernel
theorem dX11_factorial_19 : decode cX11_factorial 19 = .ok (.iinc 2 1, 3) := by decide +kernel
theorem dX11_factorial_22 : decode cX11_factorial 22 = .ok (.goto (-18), 3) := by decide +kernel
theorem dX11_factorial_25 : decode cX11_factorial 25 = .ok (.iload_n 1, 1) := by decide +kernel
theorem dX11_factorial_26 : decode cX11_factorial 26 = .ok (.ireturn, 1) := by decide +kernel
