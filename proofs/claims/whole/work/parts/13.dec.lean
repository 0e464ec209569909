theorem d_X8_wireOf_62 : decode prog_10_method_10_code 62 = .ok (.iaload, 1) := by decide +kernel
theorem d_X8_wireOf_63 : decode prog_10_method_10_code 63 = .ok (.goto 4, 3) := by decide +kernel
theorem d_X8_wireOf_66 : decode prog_10_method_10_code 66 = .ok (.iconst (-1), 1) := by decide +kernel
theorem d_X8_wireOf_67 : decode prog_10_method_10_code 67 = .ok (.ireturn, 1) := by decide +kernel
theorem d_X7_follow_0 : decode prog_9_method_10_code 0 = .ok (.iload_n 3, 1) := by decide +kernel
theorem d_X7_follow_1 : decode prog_9_method_10_code 1 = .ok (.istore 4, 2) := by decide +kernel
theorem d_X7_follow_3 : decode prog_9_method_10_code 3 = .ok (.iconst 0, 1) := by decide +kernel
theorem d_X7_follow_4 : decode prog_9_method_10_code 4 = .ok (.istore 5, 2) := by decide +kernel
theorem d_X7_follow_6 : decode prog_9_method_10_code 6 = .ok (.iload 5, 2) := by decide +kernel
theorem d_X7_follow_8 : decode prog_9_method_10_code 8 = .ok (.bipush 8, 2) := by decide +kernel
theorem d_X7_follow_10 : decode prog_9_method_10_code 10 = .ok (.if_icmp .gt 94, 3) := by decide +kernel
theorem d_X7_follow_13 : decode prog_9_method_10_code 13 = .ok (.aload_n 0, 1) := by decide +kernel
theorem d_X7_follow_14 : decode prog_9_method_10_code 14 = .ok (.iload 4, 2) := by decide +kernel
theorem d_X7_follow_16 : decode prog_9_method_10_code 16 = .ok (.invokevirtual 133, 3) := by decide +kernel
theorem d_X7_follow_19 : decode prog_9_method_10_code 19 = .ok (.aload_n 1, 1) := by decide +kernel
theorem d_X7_follow_20 : decode prog_9_method_10_code 20 = .ok (.iload_n 2, 1) := by decide +kernel
theorem d_X7_follow_21 : decode prog_9_method_10_code 21 = .ok (.iload 4, 2) := by decide +kernel
theorem d_X7_follow_23 : decode prog_9_method_10_code 23 = .ok (.invokevirtual 136, 3) := by decide +kernel
theorem d_X7_follow_26 : decode prog_9_method_10_code 26 = .ok (.istore 6, 2) := by decide +kernel
theorem d_X7_follow_28 : decode prog_9_method_10_code 28 = .ok (.iload 6, 2) := by decide +kernel
theorem d_X7_follow_30 : decode prog_9_method_10_code 30 = .ok (.ifCond .lt 10, 3) := by decide +kernel
theorem d_X7_follow_33 : decode prog_9_method_10_code 33 = .ok (.aload_n 0, 1) := by decide +kernel
theorem d_X7_follow_34 : decode prog_9_method_10_code 34 = .ok (.iload 6, 2) := by decide +kernel
theorem d_X7_follow_36 : decode prog_9_method_10_code 36 = .ok (.invokevirtual 138, 3) := by decide +kernel
theorem d_X7_follow_39 : decode prog_9_method_10_code 39 = .ok (.ireturn, 1) := by decide +kernel
theorem d_X7_follow_40 : decode prog_9_method_10_code 40 = .ok (.aload_n 0, 1) := by decide +kernel
theorem d_X7_follow_41 : decode prog_9_method_10_code 41 = .ok (.iload 6, 2) := by decide +kernel
theorem d_X7_follow_43 : decode prog_9_method_10_code 43 = .ok (.invokevirtual 133, 3) := by decide +kernel
theorem d_X7_follow_46 : decode prog_9_method_10_code 46 = .ok (.iload 6, 2) := by decide +kernel
theorem d_X7_follow_48 : decode prog_9_method_10_code 48 = .ok (.invokestatic 141, 3) := by decide +kernel
theorem d_X7_follow_51 : decode prog_9_method_10_code 51 = .ok (.istore 7, 2) := by decide +kernel
theorem d_X7_follow_53 : decode prog_9_method_10_code 53 = .ok (.iload 7, 2) := by decide +kernel
theorem d_X7_follow_55 : decode prog_9_method_10_code 55 = .ok (.ifCond .lt 10, 3) := by decide +kernel
theorem d_X7_follow_58 : decode prog_9_method_10_code 58 = .ok (.iload 7, 2) := by decide +kernel
theorem d_X7_follow_60 : decode prog_9_method_10_code 60 = .ok (.bipush 8, 2) := by decide +kernel
theorem d_X7_follow_62 : decode prog_9_method_10_code 62 = .ok (.if_icmp .lt 5, 3) := by decide +kernel
theorem d_X7_follow_65 : decode prog_9_method_10_code 65 = .ok (.iconst (-1), 1) := by decide +kernel
theorem d_X7_follow_66 : decode prog_9_method_10_code 66 = .ok (.ireturn, 1) := by decide +kernel
theorem d_X7_follow_67 : decode prog_9_method_10_code 67 = .ok (.aload_n 0, 1) := by decide +kernel
theorem d_X7_follow_68 : decode prog_9_method_10_code 68 = .ok (.getfield 15, 3) := by decide +kernel
theorem d_X7_follow_71 : decode prog_9_method_10_code 71 = .ok (.iload 7, 2) := by decide +kernel
theorem d_X7_follow_73 : decode prog_9_method_10_code 73 = .ok (.iaload, 1) := by decide +kernel
theorem d_X7_follow_74 : decode prog_9_method_10_code 74 = .ok (.iconst (-1), 1) := by decide +kernel
theorem d_X7_follow_75 : decode prog_9_method_10_code 75 = .ok (.if_icmp .ne 11, 3) := by decide +kernel
theorem d_X7_follow_78 : decode prog_9_method_10_code 78 = .ok (.aload_n 0, 1) := by decide +kernel
theorem d_X7_follow_79 : decode prog_9_method_10_code 79 = .ok (.getfield 9, 3) := by decide +kernel
theorem d_X7_follow_82 : decode prog_9_method_10_code 82 = .ok (.iload 7, 2) := by decide +kernel
theorem d_X7_follow_84 : decode prog_9_method_10_code 84 = .ok (.iaload, 1) := by decide +kernel
theorem d_X7_follow_85 : decode prog_9_method_10_code 85 = .ok (.ireturn, 1) := by decide +kernel
theorem d_X7_follow_86 : decode prog_9_method_10_code 86 = .ok (.aload_n 0, 1) := by decide +kernel
theorem d_X7_follow_87 : decode prog_9_method_10_code 87 = .ok (.getfield 15, 3) := by decide +kernel
theorem d_X7_follow_90 : decode prog_9_method_10_code 90 = .ok (.iload 7, 2) := by decide +kernel
theorem d_X7_follow_92 : decode prog_9_method_10_code 92 = .ok (.iaload, 1) := by decide +kernel
theorem d_X7_follow_93 : decode prog_9_method_10_code 93 = .ok (.invokestatic 130, 3) := by decide +kernel
theorem d_X7_follow_96 : decode prog_9_method_10_code 96 = .ok (.istore 4, 2) := by decide +kernel
theorem d_X7_follow_98 : decode prog_9_method_10_code 98 = .ok (.iinc 5 1, 3) := by decide +kernel
theorem d_X7_follow_101 : decode prog_9_method_10_code 101 = .ok (.goto (-95), 3) := by decide +kernel
theorem d_X7_follow_104 : decode prog_9_method_10_code 104 = .ok (.iconst (-1), 1) := by decide +kernel
theorem d_X7_follow_105 : decode prog_9_method_10_code 105 = .ok (.ireturn, 1) := by decide +kernel
theorem d_X7_countRings_0 : decode prog_9_method_9_code 0 = .ok (.iconst 0, 1) := by decide +kernel
theorem d_X7_countRings_1 : decode prog_9_method_9_code 1 = .ok (.istore_n 3, 1) := by decide +kernel
theorem d_X7_countRings_2 : decode prog_9_method_9_code 2 = .ok (.iconst 0, 1) := by decide +kernel
theorem d_X7_countRings_3 : decode prog_9_method_9_code 3 = .ok (.istore 4, 2) := by decide +kernel
theorem d_X7_countRings_5 : decode prog_9_method_9_code 5 = .ok (.iload 4, 2) := by decide +kernel
theorem d_X7_countRings_7 : decode prog_9_method_9_code 7 = .ok (.bipush 8, 2) := by decide +kernel
theorem d_X7_countRings_9 : decode prog_9_method_9_code 9 = .ok (.if_icmp .ge 34, 3) := by decide +kernel
theorem d_X7_countRings_12 : decode prog_9_method_9_code 12 = .ok (.aload_n 0, 1) := by decide +kernel
theorem d_X7_countRings_13 : decode prog_9_method_9_code 13 = .ok (.getfield 18, 3) := by decide +kernel
theorem d_X7_countRings_16 : decode prog_9_method_9_code 16 = .ok (.iload 4, 2) := by decide +kernel
theorem d_X7_countRings_18 : decode prog_9_method_9_code 18 = .ok (.baload, 1) := by decide +kernel
theorem d_X7_countRings_19 : decode prog_9_method_9_code 19 = .ok (.ifCond .ne 18, 3) := by decide +kernel
theorem d_X7_countRings_22 : decode prog_9_method_9_code 22 = .ok (.iinc 3 1, 3) := by decide +kernel
theorem d_X7_countRings_25 : decode prog_9_method_9_code 25 = .ok (.aload_n 0, 1) := by decide +kernel
theorem d_X7_countRings_26 : decode prog_9_method_9_code 26 = .ok (.aload_n 1, 1) := by decide +kernel
theorem d_X7_countRings_27 : decode prog_9_method_9_code 27 = .ok (.iload_n 2, 1) := by decide +kernel
theorem d_X7_countRings_28 : decode prog_9_method_9_code 28 = .ok (.iload 4, 2) := by decide +kernel
theorem d_X7_countRings_30 : decode prog_9_method_9_code 30 = .ok (.invokestatic 130, 3) := by decide +kernel
theorem d_X7_countRings_33 : decode prog_9_method_9_code 33 = .ok (.invokevirtual 122, 3) := by decide +kernel
theorem d_X7_countRings_36 : decode prog_9_method_9_code 36 = .ok (.pop, 1) := by decide +kernel
theorem d_X7_countRings_37 : decode prog_9_method_9_code 37 = .ok (.iinc 4 1, 3) := by decide +kernel
theorem d_X7_countRings_40 : decode prog_9_method_9_code 40 = .ok (.goto (-35), 3) := by decide +kernel
theorem d_X7_countRings_43 : decode prog_9_method_9_code 43 = .ok (.iload_n 3, 1) := by decide +kernel
theorem d_X7_countRings_44 : decode prog_9_method_9_code 44 = .ok (.ireturn, 1) := by decide +kernel
theorem d_X7_slotAt_0 : decode prog_9_method_5_code 0 = .ok (.iload_n 0, 1) := by decide +kernel
theorem d_X7_slotAt_1 : decode prog_9_method_5_code 1 = .ok (.ifCond .lt 10, 3) := by decide +kernel
theorem d_X7_slotAt_4 : decode prog_9_method_5_code 4 = .ok (.iload_n 0, 1) := by decide +kernel
theorem d_X7_slotAt_5 : decode prog_9_method_5_code 5 = .ok (.invokestatic 107, 3) := by decide +kernel
theorem d_X7_slotAt_8 : decode prog_9_method_5_code 8 = .ok (.ifCond .ne 5, 3) := by decide +kernel
theorem d_X7_slotAt_11 : decode prog_9_method_5_code 11 = .ok (.iconst (-1), 1) := by decide +kernel
theorem d_X7_slotAt_12 : decode prog_9_method_5_code 12 = .ok (.ireturn, 1) := by decide +kernel
theorem d_X7_slotAt_13 : decode prog_9_method_5_code 13 = .ok (.iload_n 0, 1) := by decide +kernel
theorem d_X7_slotAt_14 : decode prog_9_method_5_code 14 = .ok (.invokestatic 110, 3) := by decide +kernel
theorem d_X7_slotAt_17 : decode prog_9_method_5_code 17 = .ok (.iload_n 1, 1) := by decide +kernel
theorem d_X7_slotAt_18 : decode prog_9_method_5_code 18 = .ok (.if_icmp .ne 12, 3) := by decide +kernel
theorem d_X7_slotAt_21 : decode prog_9_method_5_code 21 = .ok (.iload_n 3, 1) := by decide +kernel
theorem d_X7_slotAt_22 : decode prog_9_method_5_code 22 = .ok (.iload_n 0, 1) := by decide +kernel
theorem d_X7_slotAt_23 : decode prog_9_method_5_code 23 = .ok (.invokestatic 107, 3) := by decide +kernel
theorem d_X7_slotAt_26 : decode prog_9_method_5_code 26 = .ok (.iadd, 1) := by decide +kernel
theorem d_X7_slotAt_27 : decode prog_9_method_5_code 27 = .ok (.iconst 1, 1) := by decide +kernel
theorem d_X7_slotAt_28 : decode prog_9_method_5_code 28 = .ok (.isub, 1) := by decide +kernel
theorem d_X7_slotAt_29 : decode prog_9_method_5_code 29 = .ok (.ireturn, 1) := by decide +kernel
theorem d_X7_slotAt_30 : decode prog_9_method_5_code 30 = .ok (.iload_n 0, 1) := by decide +kernel
theorem d_X7_slotAt_31 : decode prog_9_method_5_code 31 = .ok (.invokestatic 110, 3) := by decide +kernel
theorem d_X7_slotAt_34 : decode prog_9_method_5_code 34 = .ok (.iload_n 2, 1) := by decide +kernel
theorem d_X7_slotAt_35 : decode prog_9_method_5_code 35 = .ok (.if_icmp .ne 16, 3) := by decide +kernel
theorem d_X7_slotAt_38 : decode prog_9_method_5_code 38 = .ok (.iconst 4, 1) := by decide +kernel
theorem d_X7_slotAt_39 : decode prog_9_method_5_code 39 = .ok (.iload_n 3, 1) := by decide +kernel
theorem d_X7_slotAt_40 : decode prog_9_method_5_code 40 = .ok (.isub, 1) := by decide +kernel
theorem d_X7_slotAt_41 : decode prog_9_method_5_code 41 = .ok (.iload_n 0, 1) := by decide +kernel
theorem d_X7_slotAt_42 : decode prog_9_method_5_code 42 = .ok (.invokestatic 107, 3) := by decide +kernel
theorem d_X7_slotAt_45 : decode prog_9_method_5_code 45 = .ok (.iadd, 1) := by decide +kernel
theorem d_X7_slotAt_46 : decode prog_9_method_5_code 46 = .ok (.iconst 1, 1) := by decide +kernel
theorem d_X7_slotAt_47 : decode prog_9_method_5_code 47 = .ok (.isub, 1) := by decide +kernel
theorem d_X7_slotAt_48 : decode prog_9_method_5_code 48 = .ok (.goto 4, 3) := by decide +kernel
theorem d_X7_slotAt_51 : decode prog_9_method_5_code 51 = .ok (.iconst (-1), 1) := by decide +kernel
theorem d_X7_slotAt_52 : decode prog_9_method_5_code 52 = .ok (.ireturn, 1) := by decide +kernel
theorem d_X7_noteOutside_0 : decode prog_9_method_4_code 0 = .ok (.aload_n 1, 1) := by decide +kernel
theorem d_X7_noteOutside_1 : decode prog_9_method_4_code 1 = .ok (.getfield 78, 3) := by decide +kernel
theorem d_X7_noteOutside_4 : decode prog_9_method_4_code 4 = .ok (.aload_n 1, 1) := by decide +kernel
theorem d_X7_noteOutside_5 : decode prog_9_method_4_code 5 = .ok (.getfield 37, 3) := by decide +kernel
theorem d_X7_noteOutside_8 : decode prog_9_method_4_code 8 = .ok (.iload_n 2, 1) := by decide +kernel
theorem d_X7_noteOutside_9 : decode prog_9_method_4_code 9 = .ok (.invokevirtual 41, 3) := by decide +kernel
theorem d_X7_noteOutside_12 : decode prog_9_method_4_code 12 = .ok (.invokevirtual 82, 3) := by decide +kernel
theorem d_X7_noteOutside_15 : decode prog_9_method_4_code 15 = .ok (.iconst 5, 1) := by decide +kernel
theorem d_X7_noteOutside_16 : decode prog_9_method_4_code 16 = .ok (.invokestatic 87, 3) := by decide +kernel
theorem d_X7_noteOutside_19 : decode prog_9_method_4_code 19 = .ok (.istore 5, 2) := by decide +kernel
theorem d_X7_noteOutside_21 : decode prog_9_method_4_code 21 = .ok (.iconst 1, 1) := by decide +kernel
theorem d_X7_noteOutside_22 : decode prog_9_method_4_code 22 = .ok (.istore 6, 2) := by decide +kernel
theorem d_X7_noteOutside_24 : decode prog_9_method_4_code 24 = .ok (.iload 6, 2) := by decide +kernel
theorem d_X7_noteOutside_26 : decode prog_9_method_4_code 26 = .ok (.iload 5, 2) := by decide +kernel
theorem d_X7_noteOutside_28 : decode prog_9_method_4_code 28 = .ok (.if_icmp .ge 76, 3) := by decide +kernel
theorem d_X7_noteOutside_31 : decode prog_9_method_4_code 31 = .ok (.iload 4, 2) := by decide +kernel
theorem d_X7_noteOutside_33 : decode prog_9_method_4_code 33 = .ok (.iload 6, 2) := by decide +kernel
theorem d_X7_noteOutside_35 : decode prog_9_method_4_code 35 = .ok (.iadd, 1) := by decide +kernel
theorem d_X7_noteOutside_36 : decode prog_9_method_4_code 36 = .ok (.iconst 1, 1) := by decide +kernel
theorem d_X7_noteOutside_37 : decode prog_9_method_4_code 37 = .ok (.isub, 1) := by decide +kernel
theorem d_X7_noteOutside_38 : decode prog_9_method_4_code 38 = .ok (.istore 7, 2) := by decide +kernel
theorem d_X7_noteOutside_40 : decode prog_9_method_4_code 40 = .ok (.aload_n 1, 1) := by decide +kernel
theorem d_X7_noteOutside_41 : decode prog_9_method_4_code 41 = .ok (.getfield 37, 3) := by decide +kernel
theorem d_X7_noteOutside_44 : decode prog_9_method_4_code 44 = .ok (.iload_n 2, 1) := by decide +kernel
theorem d_X7_noteOutside_45 : decode prog_9_method_4_code 45 = .ok (.iload 6, 2) := by decide +kernel
theorem d_X7_noteOutside_47 : decode prog_9_method_4_code 47 = .ok (.invokestatic 93, 3) := by decide +kernel
theorem d_X7_noteOutside_50 : decode prog_9_method_4_code 50 = .ok (.invokevirtual 96, 3) := by decide +kernel
theorem d_X7_noteOutside_53 : decode prog_9_method_4_code 53 = .ok (.istore 8, 2) := by decide +kernel
theorem d_X7_noteOutside_55 : decode prog_9_method_4_code 55 = .ok (.iload 7, 2) := by decide +kernel
theorem d_X7_noteOutside_57 : decode prog_9_method_4_code 57 = .ok (.bipush 8, 2) := by decide +kernel
theorem d_X7_noteOutside_59 : decode prog_9_method_4_code 59 = .ok (.invokestatic 99, 3) := by decide +kernel
theorem d_X7_noteOutside_62 : decode prog_9_method_4_code 62 = .ok (.ifCond .eq 36, 3) := by decide +kernel
theorem d_X7_noteOutside_65 : decode prog_9_method_4_code 65 = .ok (.aload_n 0, 1) := by decide +kernel
theorem d_X7_noteOutside_66 : decode prog_9_method_4_code 66 = .ok (.getfield 18, 3) := by decide +kernel
theorem d_X7_noteOutside_69 : decode prog_9_method_4_code 69 = .ok (.iload 7, 2) := by decide +kernel
theorem d_X7_noteOutside_71 : decode prog_9_method_4_code 71 = .ok (.iconst 0, 1) := by decide +kernel
theorem d_X7_noteOutside_72 : decode prog_9_method_4_code 72 = .ok (.bastore, 1) := by decide +kernel
theorem d_X7_noteOutside_73 : decode prog_9_method_4_code 73 = .ok (.aload_n 0, 1) := by decide +kernel
theorem d_X7_noteOutside_74 : decode prog_9_method_4_code 74 = .ok (.getfield 9, 3) := by decide +kernel
theorem d_X7_noteOutside_77 : decode prog_9_method_4_code 77 = .ok (.iload 7, 2) := by decide +kernel
theorem d_X7_noteOutside_79 : decode prog_9_method_4_code 79 = .ok (.iload 8, 2) := by decide +kernel
theorem d_X7_noteOutside_81 : decode prog_9_method_4_code 81 = .ok (.iastore, 1) := by decide +kernel
theorem d_X7_noteOutside_82 : decode prog_9_method_4_code 82 = .ok (.aload_n 0, 1) := by decide +kernel
theorem d_X7_noteOutside_83 : decode prog_9_method_4_code 83 = .ok (.getfield 15, 3) := by decide +kernel
theorem d_X7_noteOutside_86 : decode prog_9_method_4_code 86 = .ok (.iload 7, 2) := by decide +kernel
theorem d_X7_noteOutside_88 : decode prog_9_method_4_code 88 = .ok (.iload 8, 2) := by decide +kernel
theorem d_X7_noteOutside_90 : decode prog_9_method_4_code 90 = .ok (.iload_n 2, 1) := by decide +kernel
theorem d_X7_noteOutside_91 : decode prog_9_method_4_code 91 = .ok (.iload_n 3, 1) := by decide +kernel
theorem d_X7_noteOutside_92 : decode prog_9_method_4_code 92 = .ok (.iload 4, 2) := by decide +kernel
theorem d_X7_noteOutside_94 : decode prog_9_method_4_code 94 = .ok (.invokestatic 103, 3) := by decide +kernel
theorem d_X7_noteOutside_97 : decode prog_9_method_4_code 97 = .ok (.iastore, 1) := by decide +kernel
theorem d_X7_noteOutside_98 : decode prog_9_method_4_code 98 = .ok (.iinc 6 1, 3) := by decide +kernel
theorem d_X7_noteOutside_101 : decode prog_9_method_4_code 101 = .ok (.goto (-77), 3) := by decide +kernel
theorem d_X7_noteOutside_104 : decode prog_9_method_4_code 104 = .ok (.return_, 1) := by decide +kernel
theorem d_X7_passAll_0 : decode prog_9_method_3_code 0 = .ok (.iconst 0, 1) := by decide +kernel
theorem d_X7_passAll_1 : decode prog_9_method_3_code 1 = .ok (.istore_n 1, 1) := by decide +kernel
theorem d_X7_passAll_2 : decode prog_9_method_3_code 2 = .ok (.iload_n 1, 1) := by decide +kernel
theorem d_X7_passAll_3 : decode prog_9_method_3_code 3 = .ok (.bipush 8, 2) := by decide +kernel
theorem d_X7_passAll_5 : decode prog_9_method_3_code 5 = .ok (.if_icmp .ge 16, 3) := by decide +kernel
theorem d_X7_passAll_8 : decode prog_9_method_3_code 8 = .ok (.aload_n 0, 1) := by decide +kernel
theorem d_X7_passAll_9 : decode prog_9_method_3_code 9 = .ok (.getfield 18, 3) := by decide +kernel
theorem d_X7_passAll_12 : decode prog_9_method_3_code 12 = .ok (.iload_n 1, 1) := by decide +kernel
theorem d_X7_passAll_13 : decode prog_9_method_3_code 13 = .ok (.iconst 1, 1) := by decide +kernel
theorem d_X7_passAll_14 : decode prog_9_method_3_code 14 = .ok (.bastore, 1) := by decide +kernel
theorem d_X7_passAll_15 : decode prog_9_method_3_code 15 = .ok (.iinc 1 1, 3) := by decide +kernel
theorem d_X7_passAll_18 : decode prog_9_method_3_code 18 = .ok (.goto (-16), 3) := by decide +kernel
theorem d_X7_passAll_21 : decode prog_9_method_3_code 21 = .ok (.return_, 1) := by decide +kernel
theorem d_X8_agentKind_0 : decode prog_10_method_13_code 0 = .ok (.iload_n 2, 1) := by decide +kernel
theorem d_X8_agentKind_1 : decode prog_10_method_13_code 1 = .ok (.aload_n 0, 1) := by decide +kernel
theorem d_X8_agentKind_2 : decode prog_10_method_13_code 2 = .ok (.iload_n 1, 1) := by decide +kernel
theorem d_X8_agentKind_3 : decode prog_10_method_13_code 3 = .ok (.invokevirtual 59, 3) := by decide +kernel
theorem d_X8_agentKind_6 : decode prog_10_method_13_code 6 = .ok (.invokestatic 43, 3) := by decide +kernel
theorem d_X8_agentKind_9 : decode prog_10_method_13_code 9 = .ok (.ifCond .eq 23, 3) := by decide +kernel
theorem d_X8_agentKind_12 : decode prog_10_method_13_code 12 = .ok (.iload_n 2, 1) := by decide +kernel
theorem d_X8_agentKind_13 : decode prog_10_method_13_code 13 = .ok (.bipush 12, 2) := by decide +kernel
theorem d_X8_agentKind_15 : decode prog_10_method_13_code 15 = .ok (.if_icmp .ge 17, 3) := by decide +kernel
theorem d_X8_agentKind_18 : decode prog_10_method_13_code 18 = .ok (.aload_n 0, 1) := by decide +kernel
theorem d_X8_agentKind_19 : decode prog_10_method_13_code 19 = .ok (.getfield 24, 3) := by decide +kernel
theorem d_X8_agentKind_22 : decode prog_10_method_13_code 22 = .ok (.iload_n 1, 1) := by decide +kernel
theorem d_X8_agentKind_23 : decode prog_10_method_13_code 23 = .ok (.bipush 12, 2) := by decide +kernel
theorem d_X8_agentKind_25 : decode prog_10_method_13_code 25 = .ok (.imul, 1) := by decide +kernel
theorem d_X8_agentKind_26 : decode prog_10_method_13_code 26 = .ok (.iload_n 2, 1) := by decide +kernel
theorem d_X8_agentKind_27 : decode prog_10_method_13_code 27 = .ok (.iadd, 1) := by decide +kernel
theorem d_X8_agentKind_28 : decode prog_10_method_13_code 28 = .ok (.iaload, 1) := by decide +kernel
theorem d_X8_agentKind_29 : decode prog_10_method_13_code 29 = .ok (.goto 4, 3) := by decide +kernel
theorem d_X8_agentKind_32 : decode prog_10_method_13_code 32 = .ok (.iconst (-1), 1) := by decide +kernel
theorem d_X8_agentKind_33 : decode prog_10_method_13_code 33 = .ok (.ireturn, 1) := by decide +kernel
theorem d_X7_putAgents_0 : decode prog_9_method_6_code 0 = .ok (.iconst 0, 1) := by decide +kernel
theorem d_X7_putAgents_1 : decode prog_9_method_6_code 1 = .ok (.istore_n 3, 1) := by decide +kernel
theorem d_X7_putAgents_2 : decode prog_9_method_6_code 2 = .ok (.iconst 0, 1) := by decide +kernel
theorem d_X7_putAgents_3 : decode prog_9_method_6_code 3 = .ok (.istore 4, 2) := by decide +kernel
theorem d_X7_putAgents_5 : decode prog_9_method_6_code 5 = .ok (.iload 4, 2) := by decide +kernel
theorem d_X7_putAgents_7 : decode prog_9_method_6_code 7 = .ok (.aload_n 1, 1) := by decide +kernel
theorem d_X7_putAgents_8 : decode prog_9_method_6_code 8 = .ok (.getfield 25, 3) := by decide +kernel
theorem d_X7_putAgents_11 : decode prog_9_method_6_code 11 = .ok (.iload_n 2, 1) := by decide +kernel
theorem d_X7_putAgents_12 : decode prog_9_method_6_code 12 = .ok (.invokevirtual 113, 3) := by decide +kernel
theorem d_X7_putAgents_15 : decode prog_9_method_6_code 15 = .ok (.if_icmp .ge 51, 3) := by decide +kernel
theorem d_X7_putAgents_18 : decode prog_9_method_6_code 18 = .ok (.iload 4, 2) := by decide +kernel
theorem d_X7_putAgents_20 : decode prog_9_method_6_code 20 = .ok (.bipush 12, 2) := by decide +kernel
theorem d_X7_putAgents_22 : decode prog_9_method_6_code 22 = .ok (.if_icmp .ge 44, 3) := by decide +kernel
theorem d_X7_putAgents_25 : decode prog_9_method_6_code 25 = .ok (.aload_n 0, 1) := by decide +kernel
theorem d_X7_putAgents_26 : decode prog_9_method_6_code 26 = .ok (.getfield 22, 3) := by decide +kernel
theorem d_X7_putAgents_29 : decode prog_9_method_6_code 29 = .ok (.iload 4, 2) := by decide +kernel
theorem d_X7_putAgents_31 : decode prog_9_method_6_code 31 = .ok (.aload_n 1, 1) := by decide +kernel
theorem d_X7_putAgents_32 : decode prog_9_method_6_code 32 = .ok (.getfield 37, 3) := by decide +kernel
theorem d_X7_putAgents_35 : decode prog_9_method_6_code 35 = .ok (.aload_n 1, 1) := by decide +kernel
theorem d_X7_putAgents_36 : decode prog_9_method_6_code 36 = .ok (.getfield 25, 3) := by decide +kernel
theorem d_X7_putAgents_39 : decode prog_9_method_6_code 39 = .ok (.iload_n 2, 1) := by decide +kernel
theorem d_X7_putAgents_40 : decode prog_9_method_6_code 40 = .ok (.iload 4, 2) := by decide +kernel
theorem d_X7_putAgents_42 : decode prog_9_method_6_code 42 = .ok (.invokevirtual 116, 3) := by decide +kernel
theorem d_X7_putAgents_45 : decode prog_9_method_6_code 45 = .ok (.iload_n 3, 1) := by decide +kernel
theorem d_X7_putAgents_46 : decode prog_9_method_6_code 46 = .ok (.invokevirtual 119, 3) := by decide +kernel
theorem d_X7_putAgents_49 : decode prog_9_method_6_code 49 = .ok (.iastore, 1) := by decide +kernel
theorem d_X7_putAgents_50 : decode prog_9_method_6_code 50 = .ok (.aload_n 0, 1) := by decide +kernel
theorem d_X7_putAgents_51 : decode prog_9_method_6_code 51 = .ok (.getfield 22, 3) := by decide +kernel
theorem d_X7_putAgents_54 : decode prog_9_method_6_code 54 = .ok (.iload 4, 2) := by decide +kernel
theorem d_X7_putAgents_56 : decode prog_9_method_6_code 56 = .ok (.iaload, 1) := by decide +kernel
theorem d_X7_putAgents_57 : decode prog_9_method_6_code 57 = .ok (.iconst 1, 1) := by decide +kernel
theorem d_X7_putAgents_58 : decode prog_9_method_6_code 58 = .ok (.iadd, 1) := by decide +kernel
theorem d_X7_putAgents_59 : decode prog_9_method_6_code 59 = .ok (.istore_n 3, 1) := by decide +kernel
theorem d_X7_putAgents_60 : decode prog_9_method_6_code 60 = .ok (.iinc 4 1, 3) := by decide +kernel
theorem d_X7_putAgents_63 : decode prog_9_method_6_code 63 = .ok (.goto (-58), 3) := by decide +kernel
theorem d_X7_putAgents_66 : decode prog_9_method_6_code 66 = .ok (.return_, 1) := by decide +kernel
theorem d_X4_join_0 : decode prog_6_method_12_code 0 = .ok (.aload_n 0, 1) := by decide +kernel
theorem d_X4_join_1 : decode prog_6_method_12_code 1 = .ok (.iload_n 1, 1) := by decide +kernel
theorem d_X4_join_2 : decode prog_6_method_12_code 2 = .ok (.iload_n 2, 1) := by decide +kernel
theorem d_X4_join_3 : decode prog_6_method_12_code 3 = .ok (.invokevirtual 67, 3) := by decide +kernel
theorem d_X4_join_6 : decode prog_6_method_12_code 6 = .ok (.aload_n 0, 1) := by decide +kernel
theorem d_X4_join_7 : decode prog_6_method_12_code 7 = .ok (.iload_n 2, 1) := by decide +kernel
theorem d_X4_join_8 : decode prog_6_method_12_code 8 = .ok (.iload_n 1, 1) := by decide +kernel
theorem d_X4_join_9 : decode prog_6_method_12_code 9 = .ok (.invokevirtual 67, 3) := by decide +kernel
theorem d_X4_join_12 : decode prog_6_method_12_code 12 = .ok (.return_, 1) := by decide +kernel
theorem d_X7_wireAgents_0 : decode prog_9_method_7_code 0 = .ok (.iconst 0, 1) := by decide +kernel
theorem d_X7_wireAgents_1 : decode prog_9_method_7_code 1 = .ok (.istore_n 3, 1) := by decide +kernel
theorem d_X7_wireAgents_2 : decode prog_9_method_7_code 2 = .ok (.iload_n 3, 1) := by decide +kernel
theorem d_X7_wireAgents_3 : decode prog_9_method_7_code 3 = .ok (.aload_n 1, 1) := by decide +kernel
theorem d_X7_wireAgents_4 : decode prog_9_method_7_code 4 = .ok (.getfield 25, 3) := by decide +kernel
theorem d_X7_wireAgents_7 : decode prog_9_method_7_code 7 = .ok (.iload_n 2, 1) := by decide +kernel
theorem d_X7_wireAgents_8 : decode prog_9_method_7_code 8 = .ok (.invokevirtual 113, 3) := by decide +kernel
theorem d_X7_wireAgents_11 : decode prog_9_method_7_code 11 = .ok (.if_icmp .ge 86, 3) := by decide +kernel
theorem d_X7_wireAgents_14 : decode prog_9_method_7_code 14 = .ok (.iload_n 3, 1) := by decide +kernel
theorem d_X7_wireAgents_15 : decode prog_9_method_7_code 15 = .ok (.bipush 12, 2) := by decide +kernel
theorem d_X7_wireAgents_17 : decode prog_9_method_7_code 17 = .ok (.if_icmp .ge 80, 3) := by decide +kernel
theorem d_X7_wireAgents_20 : decode prog_9_method_7_code 20 = .ok (.aload_n 1, 1) := by decide +kernel
theorem d_X7_wireAgents_21 : decode prog_9_method_7_code 21 = .ok (.getfield 78, 3) := by decide +kernel
theorem d_X7_wireAgents_24 : decode prog_9_method_7_code 24 = .ok (.aload_n 1, 1) := by decide +kernel
theorem d_X7_wireAgents_25 : decode prog_9_method_7_code 25 = .ok (.getfield 25, 3) := by decide +kernel
theorem d_X7_wireAgents_28 : decode prog_9_method_7_code 28 = .ok (.iload_n 2, 1) := by decide +kernel
theorem d_X7_wireAgents_29 : decode prog_9_method_7_code 29 = .ok (.iload_n 3, 1) := by decide +kernel
theorem d_X7_wireAgents_30 : decode prog_9_method_7_code 30 = .ok (.invokevirtual 116, 3) := by decide +kernel
theorem d_X7_wireAgents_33 : decode prog_9_method_7_code 33 = .ok (.invokevirtual 82, 3) := by decide +kernel
theorem d_X7_wireAgents_36 : decode prog_9_method_7_code 36 = .ok (.istore 4, 2) := by decide +kernel
theorem d_X7_wireAgents_38 : decode prog_9_method_7_code 38 = .ok (.iconst 0, 1) := by decide +kernel
theorem d_X7_wireAgents_39 : decode prog_9_method_7_code 39 = .ok (.istore 5, 2) := by decide +kernel
theorem d_X7_wireAgents_41 : decode prog_9_method_7_code 41 = .ok (.iload 5, 2) := by decide +kernel
theorem d_X7_wireAgents_43 : decode prog_9_method_7_code 43 = .ok (.iload 4, 2) := by decide +kernel
theorem d_X7_wireAgents_45 : decode prog_9_method_7_code 45 = .ok (.if_icmp .ge 46, 3) := by decide +kernel
theorem d_X7_wireAgents_48 : decode prog_9_method_7_code 48 = .ok (.aload_n 0, 1) := by decide +kernel
theorem d_X7_wireAgents_49 : decode prog_9_method_7_code 49 = .ok (.aload_n 1, 1) := by decide +kernel
theorem d_X7_wireAgents_50 : decode prog_9_method_7_code 50 = .ok (.getfield 25, 3) := by decide +kernel
theorem d_X7_wireAgents_53 : decode prog_9_method_7_code 53 = .ok (.iload_n 2, 1) := by decide +kernel
theorem d_X7_wireAgents_54 : decode prog_9_method_7_code 54 = .ok (.iload_n 3, 1) := by decide +kernel
theorem d_X7_wireAgents_55 : decode prog_9_method_7_code 55 = .ok (.iload 5, 2) := by decide +kernel
theorem d_X7_wireAgents_57 : decode prog_9_method_7_code 57 = .ok (.invokestatic 93, 3) := by decide +kernel
theorem d_X7_wireAgents_60 : decode prog_9_method_7_code 60 = .ok (.invokevirtual 122, 3) := by decide +kernel
theorem d_X7_wireAgents_63 : decode prog_9_method_7_code 63 = .ok (.istore 6, 2) := by decide +kernel
theorem d_X7_wireAgents_65 : decode prog_9_method_7_code 65 = .ok (.aload_n 1, 1) := by decide +kernel
theorem d_X7_wireAgents_66 : decode prog_9_method_7_code 66 = .ok (.getfield 37, 3) := by decide +kernel
theorem d_X7_wireAgents_69 : decode prog_9_method_7_code 69 = .ok (.aload_n 0, 1) := by decide +kernel
theorem d_X7_wireAgents_70 : decode prog_9_method_7_code 70 = .ok (.getfield 22, 3) := by decide +kernel
theorem d_X7_wireAgents_73 : decode prog_9_method_7_code 73 = .ok (.iload_n 3, 1) := by decide +kernel
theorem d_X7_wireAgents_74 : decode prog_9_method_7_code 74 = .ok (.iaload, 1) := by decide +kernel
theorem d_X7_wireAgents_75 : decode prog_9_method_7_code 75 = .ok (.iload 5, 2) := by decide +kernel
theorem d_X7_wireAgents_77 : decode prog_9_method_7_code 77 = .ok (.invokestatic 93, 3) := by decide +kernel
theorem d_X7_wireAgents_80 : decode prog_9_method_7_code 80 = .ok (.iload 6, 2) := by decide +kernel
theorem d_X7_wireAgents_82 : decode prog_9_method_7_code 82 = .ok (.invokevirtual 126, 3) := by decide +kernel
theorem d_X7_wireAgents_85 : decode prog_9_method_7_code 85 = .ok (.iinc 5 1, 3) := by decide +kernel
theorem d_X7_wireAgents_88 : decode prog_9_method_7_code 88 = .ok (.goto (-47), 3) := by decide +kernel
theorem d_X7_wireAgents_91 : decode prog_9_method_7_code 91 = .ok (.iinc 3 1, 3) := by decide +kernel
theorem d_X7_wireAgents_94 : decode prog_9_method_7_code 94 = .ok (.goto (-92), 3) := by decide +kernel
theorem d_X7_wireAgents_97 : decode prog_9_method_7_code 97 = .ok (.return_, 1) := by decide +kernel
theorem d_X7_wireOuter_0 : decode prog_9_method_8_code 0 = .ok (.iconst 0, 1) := by decide +kernel
theorem d_X7_wireOuter_1 : decode prog_9_method_8_code 1 = .ok (.istore_n 3, 1) := by decide +kernel
theorem d_X7_wireOuter_2 : decode prog_9_method_8_code 2 = .ok (.iload_n 3, 1) := by decide +kernel
theorem d_X7_wireOuter_3 : decode prog_9_method_8_code 3 = .ok (.bipush 8, 2) := by decide +kernel
theorem d_X7_wireOuter_5 : decode prog_9_method_8_code 5 = .ok (.if_icmp .ge 54, 3) := by decide +kernel
theorem d_X7_wireOuter_8 : decode prog_9_method_8_code 8 = .ok (.aload_n 0, 1) := by decide +kernel
theorem d_X7_wireOuter_9 : decode prog_9_method_8_code 9 = .ok (.getfield 18, 3) := by decide +kernel
theorem d_X7_wireOuter_12 : decode prog_9_method_8_code 12 = .ok (.iload_n 3, 1) := by decide +kernel
theorem d_X7_wireOuter_13 : decode prog_9_method_8_code 13 = .ok (.baload, 1) := by decide +kernel
theorem d_X7_wireOuter_14 : decode prog_9_method_8_code 14 = .ok (.ifCond .ne 39, 3) := by decide +kernel
theorem d_X7_wireOuter_17 : decode prog_9_method_8_code 17 = .ok (.aload_n 0, 1) := by decide +kernel
theorem d_X7_wireOuter_18 : decode prog_9_method_8_code 18 = .ok (.getfield 15, 3) := by decide +kernel
theorem d_X7_wireOuter_21 : decode prog_9_method_8_code 21 = .ok (.iload_n 3, 1) := by decide +kernel
theorem d_X7_wireOuter_22 : decode prog_9_method_8_code 22 = .ok (.iaload, 1) := by decide +kernel
theorem d_X7_wireOuter_23 : decode prog_9_method_8_code 23 = .ok (.iconst (-1), 1) := by decide +kernel
theorem d_X7_wireOuter_24 : decode prog_9_method_8_code 24 = .ok (.if_icmp .ne 29, 3) := by decide +kernel
theorem d_X7_wireOuter_27 : decode prog_9_method_8_code 27 = .ok (.aload_n 1, 1) := by decide +kernel
theorem d_X7_wireOuter_28 : decode prog_9_method_8_code 28 = .ok (.getfield 37, 3) := by decide +kernel
theorem d_X7_wireOuter_31 : decode prog_9_method_8_code 31 = .ok (.aload_n 0, 1) := by decide +kernel
theorem d_X7_wireOuter_32 : decode prog_9_method_8_code 32 = .ok (.getfield 9, 3) := by decide +kernel
theorem d_X7_wireOuter_35 : decode prog_9_method_8_code 35 = .ok (.iload_n 3, 1) := by decide +kernel
theorem d_X7_wireOuter_36 : decode prog_9_method_8_code 36 = .ok (.iaload, 1) := by decide +kernel
theorem d_X7_wireOuter_37 : decode prog_9_method_8_code 37 = .ok (.aload_n 0, 1) := by decide +kernel
theorem d_X7_wireOuter_38 : decode prog_9_method_8_code 38 = .ok (.aload_n 1, 1) := by decide +kernel
theorem d_X7_wireOuter_39 : decode prog_9_method_8_code 39 = .ok (.getfield 25, 3) := by decide +kernel
theorem d_X7_wireOuter_42 : decode prog_9_method_8_code 42 = .ok (.iload_n 2, 1) := by decide +kernel
theorem d_X7_wireOuter_43 : decode prog_9_method_8_code 43 = .ok (.iload_n 3, 1) := by decide +kernel
theorem d_X7_wireOuter_44 : decode prog_9_method_8_code 44 = .ok (.invokestatic 130, 3) := by decide +kernel
theorem d_X7_wireOuter_47 : decode prog_9_method_8_code 47 = .ok (.invokevirtual 122, 3) := by decide +kernel
theorem d_X7_wireOuter_50 : decode prog_9_method_8_code 50 = .ok (.invokevirtual 126, 3) := by decide +kernel
theorem d_X7_wireOuter_53 : decode prog_9_method_8_code 53 = .ok (.iinc 3 1, 3) := by decide +kernel
theorem d_X7_wireOuter_56 : decode prog_9_method_8_code 56 = .ok (.goto (-54), 3) := by decide +kernel
theorem d_X7_wireOuter_59 : decode prog_9_method_8_code 59 = .ok (.return_, 1) := by decide +kernel
theorem d_X8_firstKind_0 : decode prog_10_method_11_code 0 = .ok (.aload_n 0, 1) := by decide +kernel
theorem d_X8_firstKind_1 : decode prog_10_method_11_code 1 = .ok (.iload_n 1, 1) := by decide +kernel
theorem d_X8_firstKind_2 : decode prog_10_method_11_code 2 = .ok (.invokevirtual 51, 3) := by decide +kernel
theorem d_X8_firstKind_5 : decode prog_10_method_11_code 5 = .ok (.ifCond .eq 12, 3) := by decide +kernel
theorem d_X8_firstKind_8 : decode prog_10_method_11_code 8 = .ok (.aload_n 0, 1) := by decide +kernel
theorem d_X8_firstKind_9 : decode prog_10_method_11_code 9 = .ok (.getfield 15, 3) := by decide +kernel
theorem d_X8_firstKind_12 : decode prog_10_method_11_code 12 = .ok (.iload_n 1, 1) := by decide +kernel
theorem d_X8_firstKind_13 : decode prog_10_method_11_code 13 = .ok (.iaload, 1) := by decide +kernel
theorem d_X8_firstKind_14 : decode prog_10_method_11_code 14 = .ok (.goto 4, 3) := by decide +kernel
theorem d_X8_firstKind_17 : decode prog_10_method_11_code 17 = .ok (.iconst (-1), 1) := by decide +kernel
theorem d_X8_firstKind_18 : decode prog_10_method_11_code 18 = .ok (.ireturn, 1) := by decide +kernel
theorem d_X8_ringsIn_0 : decode prog_10_method_14_code 0 = .ok (.aload_n 0, 1) := by decide +kernel
theorem d_X8_ringsIn_1 : decode prog_10_method_14_code 1 = .ok (.iload_n 1, 1) := by decide +kernel
theorem d_X8_ringsIn_2 : decode prog_10_method_14_code 2 = .ok (.invokevirtual 51, 3) := by decide +kernel
theorem d_X8_ringsIn_5 : decode prog_10_method_14_code 5 = .ok (.ifCond .eq 12, 3) := by decide +kernel
theorem d_X8_ringsIn_8 : decode prog_10_method_14_code 8 = .ok (.aload_n 0, 1) := by decide +kernel
theorem d_X8_ringsIn_9 : decode prog_10_method_14_code 9 = .ok (.getfield 21, 3) := by decide +kernel
theorem d_X8_ringsIn_12 : decode prog_10_method_14_code 12 = .ok (.iload_n 1, 1) := by decide +kernel
theorem d_X8_ringsIn_13 : decode prog_10_method_14_code 13 = .ok (.iaload, 1) := by decide +kernel
theorem d_X8_ringsIn_14 : decode prog_10_method_14_code 14 = .ok (.goto 4, 3) := by decide +kernel
theorem d_X8_ringsIn_17 : decode prog_10_method_14_code 17 = .ok (.iconst 0, 1) := by decide +kernel
theorem d_X8_ringsIn_18 : decode prog_10_method_14_code 18 = .ok (.ireturn, 1) := by decide +kernel
theorem d_X7_rewrite_0 : decode prog_9_method_2_code 0 = .ok (.aload_n 1, 1) := by decide +kernel
theorem d_X7_rewrite_1 : decode prog_9_method_2_code 1 = .ok (.getfield 25, 3) := by decide +kernel
theorem d_X7_rewrite_4 : decode prog_9_method_2_code 4 = .ok (.iload_n 2, 1) := by decide +kernel
theorem d_X7_rewrite_5 : decode prog_9_method_2_code 5 = .ok (.invokevirtual 31, 3) := by decide +kernel
theorem d_X7_rewrite_8 : decode prog_9_method_2_code 8 = .ok (.aload_n 1, 1) := by decide +kernel
theorem d_X7_rewrite_9 : decode prog_9_method_2_code 9 = .ok (.getfield 37, 3) := by decide +kernel
theorem d_X7_rewrite_12 : decode prog_9_method_2_code 12 = .ok (.iload_n 3, 1) := by decide +kernel
theorem d_X7_rewrite_13 : decode prog_9_method_2_code 13 = .ok (.invokevirtual 41, 3) := by decide +kernel
theorem d_X7_rewrite_16 : decode prog_9_method_2_code 16 = .ok (.if_icmp .ne 7, 3) := by decide +kernel
theorem d_X7_rewrite_19 : decode prog_9_method_2_code 19 = .ok (.iconst 1, 1) := by decide +kernel
theorem d_X7_rewrite_20 : decode prog_9_method_2_code 20 = .ok (.goto 4, 3) := by decide +kernel
theorem d_X7_rewrite_23 : decode prog_9_method_2_code 23 = .ok (.iconst 0, 1) := by decide +kernel
theorem d_X7_rewrite_24 : decode prog_9_method_2_code 24 = .ok (.istore 5, 2) := by decide +kernel
theorem d_X7_rewrite_26 : decode prog_9_method_2_code 26 = .ok (.iload 5, 2) := by decide +kernel
theorem d_X7_rewrite_28 : decode prog_9_method_2_code 28 = .ok (.ifCond .eq 7, 3) := by decide +kernel
theorem d_X7_rewrite_31 : decode prog_9_method_2_code 31 = .ok (.iload_n 3, 1) := by decide +kernel
theorem d_X7_rewrite_32 : decode prog_9_method_2_code 32 = .ok (.goto 5, 3) := by decide +kernel
theorem d_X7_rewrite_35 : decode prog_9_method_2_code 35 = .ok (.iload 4, 2) := by decide +kernel
theorem d_X7_rewrite_37 : decode prog_9_method_2_code 37 = .ok (.istore 6, 2) := by decide +kernel
theorem d_X7_rewrite_39 : decode prog_9_method_2_code 39 = .ok (.iload 5, 2) := by decide +kernel
theorem d_X7_rewrite_41 : decode prog_9_method_2_code 41 = .ok (.ifCond .eq 8, 3) := by decide +kernel
theorem d_X7_rewrite_44 : decode prog_9_method_2_code 44 = .ok (.iload 4, 2) := by decide +kernel
theorem d_X7_rewrite_46 : decode prog_9_method_2_code 46 = .ok (.goto 4, 3) := by decide +kernel
theorem d_X7_rewrite_49 : decode prog_9_method_2_code 49 = .ok (.iload_n 3, 1) := by decide +kernel
theorem d_X7_rewrite_50 : decode prog_9_method_2_code 50 = .ok (.istore 7, 2) := by decide +kernel
theorem d_X7_rewrite_52 : decode prog_9_method_2_code 52 = .ok (.aload_n 0, 1) := by decide +kernel
theorem d_X7_rewrite_53 : decode prog_9_method_2_code 53 = .ok (.invokevirtual 46, 3) := by decide +kernel
theorem d_X7_rewrite_56 : decode prog_9_method_2_code 56 = .ok (.aload_n 0, 1) := by decide +kernel
theorem d_X7_rewrite_57 : decode prog_9_method_2_code 57 = .ok (.aload_n 1, 1) := by decide +kernel
theorem d_X7_rewrite_58 : decode prog_9_method_2_code 58 = .ok (.iload 6, 2) := by decide +kernel
theorem d_X7_rewrite_60 : decode prog_9_method_2_code 60 = .ok (.iload 7, 2) := by decide +kernel
theorem d_X7_rewrite_62 : decode prog_9_method_2_code 62 = .ok (.iconst 0, 1) := by decide +kernel
theorem d_X7_rewrite_63 : decode prog_9_method_2_code 63 = .ok (.invokevirtual 49, 3) := by decide +kernel
theorem d_X7_rewrite_66 : decode prog_9_method_2_code 66 = .ok (.aload_n 0, 1) := by decide +kernel
theorem d_X7_rewrite_67 : decode prog_9_method_2_code 67 = .ok (.aload_n 1, 1) := by decide +kernel
theorem d_X7_rewrite_68 : decode prog_9_method_2_code 68 = .ok (.iload 7, 2) := by decide +kernel
theorem d_X7_rewrite_70 : decode prog_9_method_2_code 70 = .ok (.iload 6, 2) := by decide +kernel
theorem d_X7_rewrite_72 : decode prog_9_method_2_code 72 = .ok (.iconst 4, 1) := by decide +kernel
theorem d_X7_rewrite_73 : decode prog_9_method_2_code 73 = .ok (.invokevirtual 49, 3) := by decide +kernel
theorem d_X7_rewrite_76 : decode prog_9_method_2_code 76 = .ok (.aload_n 1, 1) := by decide +kernel
theorem d_X7_rewrite_77 : decode prog_9_method_2_code 77 = .ok (.getfield 37, 3) := by decide +kernel
theorem d_X7_rewrite_80 : decode prog_9_method_2_code 80 = .ok (.iload 6, 2) := by decide +kernel
theorem d_X7_rewrite_82 : decode prog_9_method_2_code 82 = .ok (.invokevirtual 53, 3) := by decide +kernel
theorem d_X7_rewrite_85 : decode prog_9_method_2_code 85 = .ok (.aload_n 1, 1) := by decide +kernel
theorem d_X7_rewrite_86 : decode prog_9_method_2_code 86 = .ok (.getfield 37, 3) := by decide +kernel
theorem d_X7_rewrite_89 : decode prog_9_method_2_code 89 = .ok (.iload 7, 2) := by decide +kernel
theorem d_X7_rewrite_91 : decode prog_9_method_2_code 91 = .ok (.invokevirtual 53, 3) := by decide +kernel
theorem d_X7_rewrite_94 : decode prog_9_method_2_code 94 = .ok (.aload_n 0, 1) := by decide +kernel
theorem d_X7_rewrite_95 : decode prog_9_method_2_code 95 = .ok (.aload_n 1, 1) := by decide +kernel
theorem d_X7_rewrite_96 : decode prog_9_method_2_code 96 = .ok (.iload_n 2, 1) := by decide +kernel
theorem d_X7_rewrite_97 : decode prog_9_method_2_code 97 = .ok (.invokevirtual 57, 3) := by decide +kernel
theorem d_X7_rewrite_100 : decode prog_9_method_2_code 100 = .ok (.aload_n 0, 1) := by decide +kernel
theorem d_X7_rewrite_101 : decode prog_9_method_2_code 101 = .ok (.aload_n 1, 1) := by decide +kernel
theorem d_X7_rewrite_102 : decode prog_9_method_2_code 102 = .ok (.iload_n 2, 1) := by decide +kernel
theorem d_X7_rewrite_103 : decode prog_9_method_2_code 103 = .ok (.invokevirtual 61, 3) := by decide +kernel
theorem d_X7_rewrite_106 : decode prog_9_method_2_code 106 = .ok (.aload_n 0, 1) := by decide +kernel
theorem d_X7_rewrite_107 : decode prog_9_method_2_code 107 = .ok (.aload_n 1, 1) := by decide +kernel
theorem d_X7_rewrite_108 : decode prog_9_method_2_code 108 = .ok (.iload_n 2, 1) := by decide +kernel
theorem d_X7_rewrite_109 : decode prog_9_method_2_code 109 = .ok (.invokevirtual 64, 3) := by decide +kernel
theorem d_X7_rewrite_112 : decode prog_9_method_2_code 112 = .ok (.aload_n 1, 1) := by decide +kernel
theorem d_X7_rewrite_113 : decode prog_9_method_2_code 113 = .ok (.getfield 37, 3) := by decide +kernel
theorem d_X7_rewrite_116 : decode prog_9_method_2_code 116 = .ok (.dup, 1) := by decide +kernel
theorem d_X7_rewrite_117 : decode prog_9_method_2_code 117 = .ok (.getfield 67, 3) := by decide +kernel
theorem d_X7_rewrite_120 : decode prog_9_method_2_code 120 = .ok (.aload_n 1, 1) := by decide +kernel
theorem d_X7_rewrite_121 : decode prog_9_method_2_code 121 = .ok (.getfield 25, 3) := by decide +kernel
theorem d_X7_rewrite_124 : decode prog_9_method_2_code 124 = .ok (.iload_n 2, 1) := by decide +kernel
theorem d_X7_rewrite_125 : decode prog_9_method_2_code 125 = .ok (.invokevirtual 71, 3) := by decide +kernel
theorem d_X7_rewrite_128 : decode prog_9_method_2_code 128 = .ok (.aload_n 0, 1) := by decide +kernel
theorem d_X7_rewrite_129 : decode prog_9_method_2_code 129 = .ok (.aload_n 1, 1) := by decide +kernel
theorem d_X7_rewrite_130 : decode prog_9_method_2_code 130 = .ok (.getfield 25, 3) := by decide +kernel
theorem d_X7_rewrite_133 : decode prog_9_method_2_code 133 = .ok (.iload_n 2, 1) := by decide +kernel
theorem d_X7_rewrite_134 : decode prog_9_method_2_code 134 = .ok (.invokevirtual 74, 3) := by decide +kernel
theorem d_X7_rewrite_137 : decode prog_9_method_2_code 137 = .ok (.iadd, 1) := by decide +kernel
theorem d_X7_rewrite_138 : decode prog_9_method_2_code 138 = .ok (.iadd, 1) := by decide +kernel
theorem d_X7_rewrite_139 : decode prog_9_method_2_code 139 = .ok (.putfield 67, 3) := by decide +kernel
theorem d_X7_rewrite_142 : decode prog_9_method_2_code 142 = .ok (.return_, 1) := by decide +kernel
theorem d_X11_takeStep_0 : decode prog_1_method_31_code 0 = .ok (.aload_n 0, 1) := by decide +kernel
theorem d_X11_takeStep_1 : decode prog_1_method_31_code 1 = .ok (.getfield 61, 3) := by decide +kernel
theorem d_X11_takeStep_4 : decode prog_1_method_31_code 4 = .ok (.getfield 92, 3) := by decide +kernel
theorem d_X11_takeStep_7 : decode prog_1_method_31_code 7 = .ok (.astore_n 2, 1) := by decide +kernel
theorem d_X11_takeStep_8 : decode prog_1_method_31_code 8 = .ok (.aload_n 0, 1) := by decide +kernel
theorem d_X11_takeStep_9 : decode prog_1_method_31_code 9 = .ok (.getfield 61, 3) := by decide +kernel
theorem d_X11_takeStep_12 : decode prog_1_method_31_code 12 = .ok (.iload_n 1, 1) := by decide +kernel
theorem d_X11_takeStep_13 : decode prog_1_method_31_code 13 = .ok (.invokevirtual 193, 3) := by decide +kernel
theorem d_X11_takeStep_16 : decode prog_1_method_31_code 16 = .ok (.istore_n 3, 1) := by decide +kernel
theorem d_X11_takeStep_17 : decode prog_1_method_31_code 17 = .ok (.aload_n 2, 1) := by decide +kernel
theorem d_X11_takeStep_18 : decode prog_1_method_31_code 18 = .ok (.iload_n 1, 1) := by decide +kernel
theorem d_X11_takeStep_19 : decode prog_1_method_31_code 19 = .ok (.invokevirtual 238, 3) := by decide +kernel
theorem d_X11_takeStep_22 : decode prog_1_method_31_code 22 = .ok (.istore 4, 2) := by decide +kernel
theorem d_X11_takeStep_24 : decode prog_1_method_31_code 24 = .ok (.iload_n 3, 1) := by decide +kernel
theorem d_X11_takeStep_25 : decode prog_1_method_31_code 25 = .ok (.iconst (-1), 1) := by decide +kernel
theorem d_X11_takeStep_26 : decode prog_1_method_31_code 26 = .ok (.if_icmp .eq 27, 3) := by decide +kernel
theorem d_X11_takeStep_29 : decode prog_1_method_31_code 29 = .ok (.aload_n 2, 1) := by decide +kernel
theorem d_X11_takeStep_30 : decode prog_1_method_31_code 30 = .ok (.getfield 96, 3) := by decide +kernel
theorem d_X11_takeStep_33 : decode prog_1_method_31_code 33 = .ok (.iconst 2, 1) := by decide +kernel
theorem d_X11_takeStep_34 : decode prog_1_method_31_code 34 = .ok (.isub, 1) := by decide +kernel
theorem d_X11_takeStep_35 : decode prog_1_method_31_code 35 = .ok (.aload_n 0, 1) := by decide +kernel
theorem d_X11_takeStep_36 : decode prog_1_method_31_code 36 = .ok (.getfield 61, 3) := by decide +kernel
theorem d_X11_takeStep_39 : decode prog_1_method_31_code 39 = .ok (.getfield 115, 3) := by decide +kernel
theorem d_X11_takeStep_42 : decode prog_1_method_31_code 42 = .ok (.iload_n 3, 1) := by decide +kernel
theorem d_X11_takeStep_43 : decode prog_1_method_31_code 43 = .ok (.invokevirtual 171, 3) := by decide +kernel
theorem d_X11_takeStep_46 : decode prog_1_method_31_code 46 = .ok (.iadd, 1) := by decide +kernel
theorem d_X11_takeStep_47 : decode prog_1_method_31_code 47 = .ok (.sipush 400, 3) := by decide +kernel
theorem d_X11_takeStep_50 : decode prog_1_method_31_code 50 = .ok (.if_icmp .le 5, 3) := by decide +kernel
theorem d_X11_takeStep_53 : decode prog_1_method_31_code 53 = .ok (.iconst 0, 1) := by decide +kernel
theorem d_X11_takeStep_54 : decode prog_1_method_31_code 54 = .ok (.ireturn, 1) := by decide +kernel
theorem d_X11_takeStep_55 : decode prog_1_method_31_code 55 = .ok (.iload_n 1, 1) := by decide +kernel
theorem d_X11_takeStep_56 : decode prog_1_method_31_code 56 = .ok (.iload 4, 2) := by decide +kernel
theorem d_X11_takeStep_58 : decode prog_1_method_31_code 58 = .ok (.invokestatic 241, 3) := by decide +kernel
theorem d_X11_takeStep_61 : decode prog_1_method_31_code 61 = .ok (.istore 5, 2) := by decide +kernel
theorem d_X11_takeStep_63 : decode prog_1_method_31_code 63 = .ok (.iload_n 1, 1) := by decide +kernel
theorem d_X11_takeStep_64 : decode prog_1_method_31_code 64 = .ok (.iload 4, 2) := by decide +kernel
theorem d_X11_takeStep_66 : decode prog_1_method_31_code 66 = .ok (.invokestatic 246, 3) := by decide +kernel
theorem d_X11_takeStep_69 : decode prog_1_method_31_code 69 = .ok (.istore 6, 2) := by decide +kernel
theorem d_X11_takeStep_71 : decode prog_1_method_31_code 71 = .ok (.aload_n 0, 1) := by decide +kernel
theorem d_X11_takeStep_72 : decode prog_1_method_31_code 72 = .ok (.getfield 26, 3) := by decide +kernel
theorem d_X11_takeStep_75 : decode prog_1_method_31_code 75 = .ok (.aload_n 2, 1) := by decide +kernel
theorem d_X11_takeStep_76 : decode prog_1_method_31_code 76 = .ok (.iload 5, 2) := by decide +kernel
theorem d_X11_takeStep_78 : decode prog_1_method_31_code 78 = .ok (.invokevirtual 175, 3) := by decide +kernel
theorem d_X11_takeStep_81 : decode prog_1_method_31_code 81 = .ok (.aload_n 2, 1) := by decide +kernel
theorem d_X11_takeStep_82 : decode prog_1_method_31_code 82 = .ok (.iload 6, 2) := by decide +kernel
theorem d_X11_takeStep_84 : decode prog_1_method_31_code 84 = .ok (.invokevirtual 175, 3) := by decide +kernel
theorem d_X11_takeStep_87 : decode prog_1_method_31_code 87 = .ok (.invokevirtual 249, 3) := by decide +kernel
theorem d_X11_takeStep_90 : decode prog_1_method_31_code 90 = .ok (.aload_n 0, 1) := by decide +kernel
theorem d_X11_takeStep_91 : decode prog_1_method_31_code 91 = .ok (.getfield 19, 3) := by decide +kernel
theorem d_X11_takeStep_94 : decode prog_1_method_31_code 94 = .ok (.aload_n 0, 1) := by decide +kernel
theorem d_X11_takeStep_95 : decode prog_1_method_31_code 95 = .ok (.getfield 61, 3) := by decide +kernel
theorem d_X11_takeStep_98 : decode prog_1_method_31_code 98 = .ok (.iload_n 3, 1) := by decide +kernel
theorem d_X11_takeStep_99 : decode prog_1_method_31_code 99 = .ok (.iload 5, 2) := by decide +kernel
theorem d_X11_takeStep_101 : decode prog_1_method_31_code 101 = .ok (.iload 6, 2) := by decide +kernel
theorem d_X11_takeStep_103 : decode prog_1_method_31_code 103 = .ok (.invokevirtual 253, 3) := by decide +kernel
theorem d_X11_takeStep_106 : decode prog_1_method_31_code 106 = .ok (.aload_n 0, 1) := by decide +kernel
theorem d_X11_takeStep_107 : decode prog_1_method_31_code 107 = .ok (.getfield 26, 3) := by decide +kernel
theorem d_X11_takeStep_110 : decode prog_1_method_31_code 110 = .ok (.aload_n 2, 1) := by decide +kernel
theorem d_X11_takeStep_111 : decode prog_1_method_31_code 111 = .ok (.getfield 96, 3) := by decide +kernel
theorem d_X11_takeStep_114 : decode prog_1_method_31_code 114 = .ok (.invokevirtual 257, 3) := by decide +kernel
theorem d_X11_takeStep_117 : decode prog_1_method_31_code 117 = .ok (.iconst 1, 1) := by decide +kernel
theorem d_X11_takeStep_118 : decode prog_1_method_31_code 118 = .ok (.ireturn, 1) := by decide +kernel
theorem d_X11_runRounds_0 : decode prog_1_method_34_code 0 = .ok (.iconst 0, 1) := by decide +kernel
theorem d_X11_runRounds_1 : decode prog_1_method_34_code 1 = .ok (.istore_n 2, 1) := by decide +kernel
theorem d_X11_runRounds_2 : decode prog_1_method_34_code 2 = .ok (.iconst 0, 1) := by decide +kernel
theorem d_X11_runRounds_3 : decode prog_1_method_34_code 3 = .ok (.istore_n 3, 1) := by decide +kernel
theorem d_X11_runRounds_4 : decode prog_1_method_34_code 4 = .ok (.iload_n 3, 1) := by decide +kernel
theorem d_X11_runRounds_5 : decode prog_1_method_34_code 5 = .ok (.sipush 3000, 3) := by decide +kernel
theorem d_X11_runRounds_8 : decode prog_1_method_34_code 8 = .ok (.if_icmp .ge 95, 3) := by decide +kernel
theorem d_X11_runRounds_11 : decode prog_1_method_34_code 11 = .ok (.iload_n 2, 1) := by decide +kernel
theorem d_X11_runRounds_12 : decode prog_1_method_34_code 12 = .ok (.iload_n 1, 1) := by decide +kernel
theorem d_X11_runRounds_13 : decode prog_1_method_34_code 13 = .ok (.if_icmp .ge 90, 3) := by decide +kernel
theorem d_X11_runRounds_16 : decode prog_1_method_34_code 16 = .ok (.aload_n 0, 1) := by decide +kernel
theorem d_X11_runRounds_17 : decode prog_1_method_34_code 17 = .ok (.getfield 61, 3) := by decide +kernel
theorem d_X11_runRounds_20 : decode prog_1_method_34_code 20 = .ok (.aload_n 0, 1) := by decide +kernel
theorem d_X11_runRounds_21 : decode prog_1_method_34_code 21 = .ok (.getfield 37, 3) := by decide +kernel
theorem d_X11_runRounds_24 : decode prog_1_method_34_code 24 = .ok (.invokevirtual 270, 3) := by decide +kernel
theorem d_X11_runRounds_27 : decode prog_1_method_34_code 27 = .ok (.istore 4, 2) := by decide +kernel
theorem d_X11_runRounds_29 : decode prog_1_method_34_code 29 = .ok (.iload 4, 2) := by decide +kernel
theorem d_X11_runRounds_31 : decode prog_1_method_34_code 31 = .ok (.ifCond .ne 5, 3) := by decide +kernel
theorem d_X11_runRounds_34 : decode prog_1_method_34_code 34 = .ok (.iload_n 2, 1) := by decide +kernel
theorem d_X11_runRounds_35 : decode prog_1_method_34_code 35 = .ok (.ireturn, 1) := by decide +kernel
theorem d_X11_runRounds_36 : decode prog_1_method_34_code 36 = .ok (.aload_n 0, 1) := by decide +kernel
theorem d_X11_runRounds_37 : decode prog_1_method_34_code 37 = .ok (.getfield 26, 3) := by decide +kernel
theorem d_X11_runRounds_40 : decode prog_1_method_34_code 40 = .ok (.dup, 1) := by decide +kernel
theorem d_X11_runRounds_41 : decode prog_1_method_34_code 41 = .ok (.getfield 142, 3) := by decide +kernel
theorem d_X11_runRounds_44 : decode prog_1_method_34_code 44 = .ok (.iconst 1, 1) := by decide +kernel
theorem d_X11_runRounds_45 : decode prog_1_method_34_code 45 = .ok (.iadd, 1) := by decide +kernel
theorem d_X11_runRounds_46 : decode prog_1_method_34_code 46 = .ok (.putfield 142, 3) := by decide +kernel
theorem d_X11_runRounds_49 : decode prog_1_method_34_code 49 = .ok (.iconst 0, 1) := by decide +kernel
theorem d_X11_runRounds_50 : decode prog_1_method_34_code 50 = .ok (.istore 5, 2) := by decide +kernel
theorem d_X11_runRounds_52 : decode prog_1_method_34_code 52 = .ok (.iload 5, 2) := by decide +kernel
theorem d_X11_runRounds_54 : decode prog_1_method_34_code 54 = .ok (.iload 4, 2) := by decide +kernel
theorem d_X11_runRounds_56 : decode prog_1_method_34_code 56 = .ok (.if_icmp .ge 41, 3) := by decide +kernel
theorem d_X11_runRounds_59 : decode prog_1_method_34_code 59 = .ok (.iload_n 2, 1) := by decide +kernel
theorem d_X11_runRounds_60 : decode prog_1_method_34_code 60 = .ok (.iload_n 1, 1) := by decide +kernel
theorem d_X11_runRounds_61 : decode prog_1_method_34_code 61 = .ok (.if_icmp .ge 36, 3) := by decide +kernel
theorem d_X11_runRounds_64 : decode prog_1_method_34_code 64 = .ok (.aload_n 0, 1) := by decide +kernel
theorem d_X11_runRounds_65 : decode prog_1_method_34_code 65 = .ok (.aload_n 0, 1) := by decide +kernel
theorem d_X11_runRounds_66 : decode prog_1_method_34_code 66 = .ok (.getfield 37, 3) := by decide +kernel
theorem d_X11_runRounds_69 : decode prog_1_method_34_code 69 = .ok (.iload 5, 2) := by decide +kernel
theorem d_X11_runRounds_71 : decode prog_1_method_34_code 71 = .ok (.iaload, 1) := by decide +kernel
theorem d_X11_runRounds_72 : decode prog_1_method_34_code 72 = .ok (.invokevirtual 196, 3) := by decide +kernel
theorem d_X11_runRounds_75 : decode prog_1_method_34_code 75 = .ok (.ifCond .ne 13, 3) := by decide +kernel
theorem d_X11_runRounds_78 : decode prog_1_method_34_code 78 = .ok (.aload_n 0, 1) := by decide +kernel
theorem d_X11_runRounds_79 : decode prog_1_method_34_code 79 = .ok (.getfield 26, 3) := by decide +kernel
theorem d_X11_runRounds_82 : decode prog_1_method_34_code 82 = .ok (.iconst 1, 1) := by decide +kernel
theorem d_X11_runRounds_83 : decode prog_1_method_34_code 83 = .ok (.putfield 145, 3) := by decide +kernel
theorem d_X11_runRounds_86 : decode prog_1_method_34_code 86 = .ok (.iload_n 2, 1) := by decide +kernel
theorem d_X11_runRounds_87 : decode prog_1_method_34_code 87 = .ok (.ireturn, 1) := by decide +kernel
theorem d_X11_runRounds_88 : decode prog_1_method_34_code 88 = .ok (.iinc 2 1, 3) := by decide +kernel
theorem d_X11_runRounds_91 : decode prog_1_method_34_code 91 = .ok (.iinc 5 1, 3) := by decide +kernel
theorem d_X11_runRounds_94 : decode prog_1_method_34_code 94 = .ok (.goto (-42), 3) := by decide +kernel
theorem d_X11_runRounds_97 : decode prog_1_method_34_code 97 = .ok (.iinc 3 1, 3) := by decide +kernel
theorem d_X11_runRounds_100 : decode prog_1_method_34_code 100 = .ok (.goto (-96), 3) := by decide +kernel
theorem d_X11_runRounds_103 : decode prog_1_method_34_code 103 = .ok (.iload_n 2, 1) := by decide +kernel
theorem d_X11_runRounds_104 : decode prog_1_method_34_code 104 = .ok (.ireturn, 1) := by decide +kernel
theorem d_X11_runSingly_0 : decode prog_1_method_32_code 0 = .ok (.iconst 0, 1) := by decide +kernel
theorem d_X11_runSingly_1 : decode prog_1_method_32_code 1 = .ok (.istore_n 3, 1) := by decide +kernel
theorem d_X11_runSingly_2 : decode prog_1_method_32_code 2 = .ok (.iload_n 3, 1) := by decide +kernel
theorem d_X11_runSingly_3 : decode prog_1_method_32_code 3 = .ok (.iload_n 2, 1) := by decide +kernel
theorem d_X11_runSingly_4 : decode prog_1_method_32_code 4 = .ok (.if_icmp .ge 43, 3) := by decide +kernel
theorem d_X11_runSingly_7 : decode prog_1_method_32_code 7 = .ok (.aload_n 0, 1) := by decide +kernel
theorem d_X11_runSingly_8 : decode prog_1_method_32_code 8 = .ok (.iload_n 1, 1) := by decide +kernel
theorem d_X11_runSingly_9 : decode prog_1_method_32_code 9 = .ok (.invokevirtual 260, 3) := by decide +kernel
theorem d_X11_runSingly_12 : decode prog_1_method_32_code 12 = .ok (.istore 4, 2) := by decide +kernel
theorem d_X11_runSingly_14 : decode prog_1_method_32_code 14 = .ok (.iload 4, 2) := by decide +kernel
theorem d_X11_runSingly_16 : decode prog_1_method_32_code 16 = .ok (.iconst (-1), 1) := by decide +kernel
theorem d_X11_runSingly_17 : decode prog_1_method_32_code 17 = .ok (.if_icmp .ne 5, 3) := by decide +kernel
theorem d_X11_runSingly_20 : decode prog_1_method_32_code 20 = .ok (.iload_n 3, 1) := by decide +kernel
theorem d_X11_runSingly_21 : decode prog_1_method_32_code 21 = .ok (.ireturn, 1) := by decide +kernel
theorem d_X11_runSingly_22 : decode prog_1_method_32_code 22 = .ok (.aload_n 0, 1) := by decide +kernel
theorem d_X11_runSingly_23 : decode prog_1_method_32_code 23 = .ok (.iload 4, 2) := by decide +kernel
theorem d_X11_runSingly_25 : decode prog_1_method_32_code 25 = .ok (.invokevirtual 196, 3) := by decide +kernel
theorem d_X11_runSingly_28 : decode prog_1_method_32_code 28 = .ok (.ifCond .ne 13, 3) := by decide +kernel
theorem d_X11_runSingly_31 : decode prog_1_method_32_code 31 = .ok (.aload_n 0, 1) := by decide +kernel
theorem d_X11_runSingly_32 : decode prog_1_method_32_code 32 = .ok (.getfield 26, 3) := by decide +kernel
theorem d_X11_runSingly_35 : decode prog_1_method_32_code 35 = .ok (.iconst 1, 1) := by decide +kernel
theorem d_X11_runSingly_36 : decode prog_1_method_32_code 36 = .ok (.putfield 145, 3) := by decide +kernel
theorem d_X11_runSingly_39 : decode prog_1_method_32_code 39 = .ok (.iload_n 3, 1) := by decide +kernel
theorem d_X11_runSingly_40 : decode prog_1_method_32_code 40 = .ok (.ireturn, 1) := by decide +kernel
theorem d_X11_runSingly_41 : decode prog_1_method_32_code 41 = .ok (.iinc 3 1, 3) := by decide +kernel
theorem d_X11_runSingly_44 : decode prog_1_method_32_code 44 = .ok (.goto (-42), 3) := by decide +kernel
theorem d_X11_runSingly_47 : decode prog_1_method_32_code 47 = .ok (.iload_n 2, 1) := by decide +kernel
theorem d_X11_runSingly_48 : decode prog_1_method_32_code 48 = .ok (.ireturn, 1) := by decide +kernel
theorem d_X11_run_0 : decode prog_1_method_14_code 0 = .ok (.iload_n 1, 1) := by decide +kernel
theorem d_X11_run_1 : decode prog_1_method_14_code 1 = .ok (.ifCond .lt 19, 3) := by decide +kernel
theorem d_X11_run_4 : decode prog_1_method_14_code 4 = .ok (.iload_n 1, 1) := by decide +kernel
theorem d_X11_run_5 : decode prog_1_method_14_code 5 = .ok (.iconst 3, 1) := by decide +kernel
theorem d_X11_run_6 : decode prog_1_method_14_code 6 = .ok (.if_icmp .gt 14, 3) := by decide +kernel
theorem d_X11_run_9 : decode prog_1_method_14_code 9 = .ok (.iload_n 2, 1) := by decide +kernel
theorem d_X11_run_10 : decode prog_1_method_14_code 10 = .ok (.ifCond .lt 10, 3) := by decide +kernel
theorem d_X11_run_13 : decode prog_1_method_14_code 13 = .ok (.iload_n 2, 1) := by decide +kernel
theorem d_X11_run_14 : decode prog_1_method_14_code 14 = .ok (.sipush 3000, 3) := by decide +kernel
theorem d_X11_run_17 : decode prog_1_method_14_code 17 = .ok (.if_icmp .le 7, 3) := by decide +kernel
theorem d_X11_run_20 : decode prog_1_method_14_code 20 = .ok (.sipush (-1002), 3) := by decide +kernel
theorem d_X11_run_23 : decode prog_1_method_14_code 23 = .ok (.ireturn, 1) := by decide +kernel
theorem d_X11_run_24 : decode prog_1_method_14_code 24 = .ok (.aload_n 0, 1) := by decide +kernel
theorem d_X11_run_25 : decode prog_1_method_14_code 25 = .ok (.getfield 26, 3) := by decide +kernel
theorem d_X11_run_28 : decode prog_1_method_14_code 28 = .ok (.iconst 0, 1) := by decide +kernel
theorem d_X11_run_29 : decode prog_1_method_14_code 29 = .ok (.putfield 145, 3) := by decide +kernel
theorem d_X11_run_32 : decode prog_1_method_14_code 32 = .ok (.iload_n 1, 1) := by decide +kernel
theorem d_X11_run_33 : decode prog_1_method_14_code 33 = .ok (.iconst 2, 1) := by decide +kernel
theorem d_X11_run_34 : decode prog_1_method_14_code 34 = .ok (.if_icmp .ne 11, 3) := by decide +kernel
theorem d_X11_run_37 : decode prog_1_method_14_code 37 = .ok (.aload_n 0, 1) := by decide +kernel
theorem d_X11_run_38 : decode prog_1_method_14_code 38 = .ok (.iload_n 2, 1) := by decide +kernel
theorem d_X11_run_39 : decode prog_1_method_14_code 39 = .ok (.invokevirtual 199, 3) := by decide +kernel
theorem d_X11_run_42 : decode prog_1_method_14_code 42 = .ok (.goto 9, 3) := by decide +kernel
theorem d_X11_run_45 : decode prog_1_method_14_code 45 = .ok (.aload_n 0, 1) := by decide +kernel
theorem d_X11_run_46 : decode prog_1_method_14_code 46 = .ok (.iload_n 1, 1) := by decide +kernel
theorem d_X11_run_47 : decode prog_1_method_14_code 47 = .ok (.iload_n 2, 1) := by decide +kernel
theorem d_X11_run_48 : decode prog_1_method_14_code 48 = .ok (.invokevirtual 202, 3) := by decide +kernel
theorem d_X11_run_51 : decode prog_1_method_14_code 51 = .ok (.ireturn, 1) := by decide +kernel
theorem d_X11_step_0 : decode prog_1_method_13_code 0 = .ok (.aload_n 0, 1) := by decide +kernel
theorem d_X11_step_1 : decode prog_1_method_13_code 1 = .ok (.getfield 61, 3) := by decide +kernel
theorem d_X11_step_4 : decode prog_1_method_13_code 4 = .ok (.getfield 92, 3) := by decide +kernel
theorem d_X11_step_7 : decode prog_1_method_13_code 7 = .ok (.iload_n 1, 1) := by decide +kernel
theorem d_X11_step_8 : decode prog_1_method_13_code 8 = .ok (.invokevirtual 174, 3) := by decide +kernel
theorem d_X11_step_11 : decode prog_1_method_13_code 11 = .ok (.ifCond .ne 7, 3) := by decide +kernel
theorem d_X11_step_14 : decode prog_1_method_13_code 14 = .ok (.sipush (-1001), 3) := by decide +kernel
theorem d_X11_step_17 : decode prog_1_method_13_code 17 = .ok (.ireturn, 1) := by decide +kernel
theorem d_X11_step_18 : decode prog_1_method_13_code 18 = .ok (.aload_n 0, 1) := by decide +kernel
theorem d_X11_step_19 : decode prog_1_method_13_code 19 = .ok (.getfield 61, 3) := by decide +kernel
theorem d_X11_step_22 : decode prog_1_method_13_code 22 = .ok (.iload_n 1, 1) := by decide +kernel
theorem d_X11_step_23 : decode prog_1_method_13_code 23 = .ok (.invokevirtual 193, 3) := by decide +kernel
theorem d_X11_step_26 : decode prog_1_method_13_code 26 = .ok (.iconst (-1), 1) := by decide +kernel
theorem d_X11_step_27 : decode prog_1_method_13_code 27 = .ok (.if_icmp .ne 7, 3) := by decide +kernel
theorem d_X11_step_30 : decode prog_1_method_13_code 30 = .ok (.sipush (-1003), 3) := by decide +kernel
theorem d_X11_step_33 : decode prog_1_method_13_code 33 = .ok (.ireturn, 1) := by decide +kernel
theorem d_X11_step_34 : decode prog_1_method_13_code 34 = .ok (.aload_n 0, 1) := by decide +kernel
theorem d_X11_step_35 : decode prog_1_method_13_code 35 = .ok (.iload_n 1, 1) := by decide +kernel
theorem d_X11_step_36 : decode prog_1_method_13_code 36 = .ok (.invokevirtual 196, 3) := by decide +kernel
theorem d_X11_step_39 : decode prog_1_method_13_code 39 = .ok (.ifCond .eq 7, 3) := by decide +kernel
theorem d_X11_step_42 : decode prog_1_method_13_code 42 = .ok (.iconst 1, 1) := by decide +kernel
theorem d_X11_step_43 : decode prog_1_method_13_code 43 = .ok (.goto 4, 3) := by decide +kernel
theorem d_X11_step_46 : decode prog_1_method_13_code 46 = .ok (.iconst 0, 1) := by decide +kernel
theorem d_X11_step_47 : decode prog_1_method_13_code 47 = .ok (.ireturn, 1) := by decide +kernel
theorem d_X2_recentStep_0 : decode prog_4_method_5_code 0 = .ok (.iload_n 1, 1) := by decide +kernel
theorem d_X2_recentStep_1 : decode prog_4_method_5_code 1 = .ok (.aload_n 0, 1) := by decide +kernel
theorem d_X2_recentStep_2 : decode prog_4_method_5_code 2 = .ok (.getfield 15, 3) := by decide +kernel
theorem d_X2_recentStep_5 : decode prog_4_method_5_code 5 = .ok (.bipush 50, 2) := by decide +kernel
theorem d_X2_recentStep_7 : decode prog_4_method_5_code 7 = .ok (.invokestatic 34, 3) := by decide +kernel
theorem d_X2_recentStep_10 : decode prog_4_method_5_code 10 = .ok (.invokestatic 37, 3) := by decide +kernel
theorem d_X2_recentStep_13 : decode prog_4_method_5_code 13 = .ok (.ifCond .eq 24, 3) := by decide +kernel
theorem d_X2_recentStep_16 : decode prog_4_method_5_code 16 = .ok (.aload_n 0, 1) := by decide +kernel
theorem d_X2_recentStep_17 : decode prog_4_method_5_code 17 = .ok (.getfield 11, 3) := by decide +kernel
theorem d_X2_recentStep_20 : decode prog_4_method_5_code 20 = .ok (.aload_n 0, 1) := by decide +kernel
theorem d_X2_recentStep_21 : decode prog_4_method_5_code 21 = .ok (.getfield 15, 3) := by decide +kernel
theorem d_X2_recentStep_24 : decode prog_4_method_5_code 24 = .ok (.iconst 1, 1) := by decide +kernel
theorem d_X2_recentStep_25 : decode prog_4_method_5_code 25 = .ok (.isub, 1) := by decide +kernel
theorem d_X2_recentStep_26 : decode prog_4_method_5_code 26 = .ok (.iload_n 1, 1) := by decide +kernel
theorem d_X2_recentStep_27 : decode prog_4_method_5_code 27 = .ok (.isub, 1) := by decide +kernel
theorem d_X2_recentStep_28 : decode prog_4_method_5_code 28 = .ok (.bipush 50, 2) := by decide +kernel
theorem d_X2_recentStep_30 : decode prog_4_method_5_code 30 = .ok (.invokestatic 25, 3) := by decide +kernel
theorem d_X2_recentStep_33 : decode prog_4_method_5_code 33 = .ok (.iaload, 1) := by decide +kernel
theorem d_X2_recentStep_34 : decode prog_4_method_5_code 34 = .ok (.goto 4, 3) := by decide +kernel
theorem d_X2_recentStep_37 : decode prog_4_method_5_code 37 = .ok (.iconst (-1), 1) := by decide +kernel
theorem d_X2_recentStep_38 : decode prog_4_method_5_code 38 = .ok (.ireturn, 1) := by decide +kernel
theorem d_X11_trace_0 : decode prog_1_method_16_code 0 = .ok (.aload_n 0, 1) := by decide +kernel
theorem d_X11_trace_1 : decode prog_1_method_16_code 1 = .ok (.getfield 26, 3) := by decide +kernel
theorem d_X11_trace_4 : decode prog_1_method_16_code 4 = .ok (.iload_n 1, 1) := by decide +kernel
theorem d_X11_trace_5 : decode prog_1_method_16_code 5 = .ok (.invokevirtual 205, 3) := by decide +kernel
theorem d_X11_trace_8 : decode prog_1_method_16_code 8 = .ok (.ireturn, 1) := by decide +kernel
theorem d_X11_wired_0 : decode prog_1_method_10_code 0 = .ok (.aload_n 0, 1) := by decide +kernel
theorem d_X11_wired_1 : decode prog_1_method_10_code 1 = .ok (.getfield 61, 3) := by decide +kernel
theorem d_X11_wired_4 : decode prog_1_method_10_code 4 = .ok (.getfield 92, 3) := by decide +kernel
theorem d_X11_wired_7 : decode prog_1_method_10_code 7 = .ok (.iload_n 1, 1) := by decide +kernel
theorem d_X11_wired_8 : decode prog_1_method_10_code 8 = .ok (.invokevirtual 174, 3) := by decide +kernel
theorem d_X11_wired_11 : decode prog_1_method_10_code 11 = .ok (.ifCond .ne 7, 3) := by decide +kernel
theorem d_X11_wired_14 : decode prog_1_method_10_code 14 = .ok (.sipush (-1001), 3) := by decide +kernel
theorem d_X11_wired_17 : decode prog_1_method_10_code 17 = .ok (.ireturn, 1) := by decide +kernel
theorem d_X11_wired_18 : decode prog_1_method_10_code 18 = .ok (.aload_n 0, 1) := by decide +kernel
theorem d_X11_wired_19 : decode prog_1_method_10_code 19 = .ok (.getfield 61, 3) := by decide +kernel
theorem d_X11_wired_22 : decode prog_1_method_10_code 22 = .ok (.getfield 108, 3) := by decide +kernel
theorem d_X11_wired_25 : decode prog_1_method_10_code 25 = .ok (.aload_n 0, 1) := by decide +kernel
theorem d_X11_wired_26 : decode prog_1_method_10_code 26 = .ok (.getfield 61, 3) := by decide +kernel
theorem d_X11_wired_29 : decode prog_1_method_10_code 29 = .ok (.getfield 92, 3) := by decide +kernel
theorem d_X11_wired_32 : decode prog_1_method_10_code 32 = .ok (.iload_n 1, 1) := by decide +kernel
theorem d_X11_wired_33 : decode prog_1_method_10_code 33 = .ok (.invokevirtual 175, 3) := by decide +kernel
theorem d_X11_wired_36 : decode prog_1_method_10_code 36 = .ok (.iload_n 2, 1) := by decide +kernel
theorem d_X11_wired_37 : decode prog_1_method_10_code 37 = .ok (.invokevirtual 160, 3) := by decide +kernel
theorem d_X11_wired_40 : decode prog_1_method_10_code 40 = .ok (.ifCond .ne 7, 3) := by decide +kernel
theorem d_X11_wired_43 : decode prog_1_method_10_code 43 = .ok (.sipush (-1002), 3) := by decide +kernel
theorem d_X11_wired_46 : decode prog_1_method_10_code 46 = .ok (.ireturn, 1) := by decide +kernel
theorem d_X11_wired_47 : decode prog_1_method_10_code 47 = .ok (.aload_n 0, 1) := by decide +kernel
theorem d_X11_wired_48 : decode prog_1_method_10_code 48 = .ok (.getfield 61, 3) := by decide +kernel
theorem d_X11_wired_51 : decode prog_1_method_10_code 51 = .ok (.getfield 92, 3) := by decide +kernel
theorem d_X11_wired_54 : decode prog_1_method_10_code 54 = .ok (.iload_n 1, 1) := by decide +kernel
theorem d_X11_wired_55 : decode prog_1_method_10_code 55 = .ok (.iload_n 2, 1) := by decide +kernel
theorem d_X11_wired_56 : decode prog_1_method_10_code 56 = .ok (.invokestatic 178, 3) := by decide +kernel
theorem d_X11_wired_59 : decode prog_1_method_10_code 59 = .ok (.invokevirtual 181, 3) := by decide +kernel
theorem d_X11_wired_62 : decode prog_1_method_10_code 62 = .ok (.ireturn, 1) := by decide +kernel
theorem d_X12_in_0 : decode prog_14_method_3_code 0 = .ok (.lload_n 0, 1) := by decide +kernel
theorem d_X12_in_1 : decode prog_14_method_3_code 1 = .ok (.lload_n 2, 1) := by decide +kernel
theorem d_X12_in_2 : decode prog_14_method_3_code 2 = .ok (.lcmp, 1) := by decide +kernel
theorem d_X12_in_3 : decode prog_14_method_3_code 3 = .ok (.ifCond .lt 14, 3) := by decide +kernel
theorem d_X12_in_6 : decode prog_14_method_3_code 6 = .ok (.lload_n 0, 1) := by decide +kernel
theorem d_X12_in_7 : decode prog_14_method_3_code 7 = .ok (.lload 4, 2) := by decide +kernel
theorem d_X12_in_9 : decode prog_14_method_3_code 9 = .ok (.lcmp, 1) := by decide +kernel
theorem d_X12_in_10 : decode prog_14_method_3_code 10 = .ok (.ifCond .gt 7, 3) := by decide +kernel
theorem d_X12_in_13 : decode prog_14_method_3_code 13 = .ok (.iconst 1, 1) := by decide +kernel
theorem d_X12_in_14 : decode prog_14_method_3_code 14 = .ok (.goto 4, 3) := by decide +kernel
theorem d_X12_in_17 : decode prog_14_method_3_code 17 = .ok (.iconst 0, 1) := by decide +kernel
theorem d_X12_in_18 : decode prog_14_method_3_code 18 = .ok (.ireturn, 1) := by decide +kernel
theorem d_X12_isAgent_0 : decode prog_14_method_41_code 0 = .ok (.iload_n 1, 1) := by decide +kernel
theorem d_X12_isAgent_1 : decode prog_14_method_41_code 1 = .ok (.i2l, 1) := by decide +kernel
theorem d_X12_isAgent_2 : decode prog_14_method_41_code 2 = .ok (.lconst 0, 1) := by decide +kernel
theorem d_X12_isAgent_3 : decode prog_14_method_41_code 3 = .ok (.ldc2_w 372, 3) := by decide +kernel
theorem d_X12_isAgent_6 : decode prog_14_method_41_code 6 = .ok (.invokestatic 191, 3) := by decide +kernel
theorem d_X12_isAgent_9 : decode prog_14_method_41_code 9 = .ok (.ifCond .eq 16, 3) := by decide +kernel
theorem d_X12_isAgent_12 : decode prog_14_method_41_code 12 = .ok (.aload_n 0, 1) := by decide +kernel
theorem d_X12_isAgent_13 : decode prog_14_method_41_code 13 = .ok (.getfield 49, 3) := by decide +kernel
theorem d_X12_isAgent_16 : decode prog_14_method_41_code 16 = .ok (.iload_n 1, 1) := by decide +kernel
theorem d_X12_isAgent_17 : decode prog_14_method_41_code 17 = .ok (.iaload, 1) := by decide +kernel
theorem d_X12_isAgent_18 : decode prog_14_method_41_code 18 = .ok (.ifCond .lt 7, 3) := by decide +kernel
theorem d_X12_isAgent_21 : decode prog_14_method_41_code 21 = .ok (.iconst 1, 1) := by decide +kernel
theorem d_X12_isAgent_22 : decode prog_14_method_41_code 22 = .ok (.goto 4, 3) := by decide +kernel
theorem d_X12_isAgent_25 : decode prog_14_method_41_code 25 = .ok (.iconst 0, 1) := by decide +kernel
theorem d_X12_isAgent_26 : decode prog_14_method_41_code 26 = .ok (.ireturn, 1) := by decide +kernel
theorem d_X12_agent_0 : decode prog_14_method_51_code 0 = .ok (.aload_n 0, 1) := by decide +kernel
theorem d_X12_agent_1 : decode prog_14_method_51_code 1 = .ok (.iload_n 1, 1) := by decide +kernel
theorem d_X12_agent_2 : decode prog_14_method_51_code 2 = .ok (.invokevirtual 406, 3) := by decide +kernel
theorem d_X12_agent_5 : decode prog_14_method_51_code 5 = .ok (.ifCond .eq 12, 3) := by decide +kernel
theorem d_X12_agent_8 : decode prog_14_method_51_code 8 = .ok (.aload_n 0, 1) := by decide +kernel
theorem d_X12_agent_9 : decode prog_14_method_51_code 9 = .ok (.getfield 49, 3) := by decide +kernel
theorem d_X12_agent_12 : decode prog_14_method_51_code 12 = .ok (.iload_n 1, 1) := by decide +kernel
theorem d_X12_agent_13 : decode prog_14_method_51_code 13 = .ok (.iaload, 1) := by decide +kernel
theorem d_X12_agent_14 : decode prog_14_method_51_code 14 = .ok (.goto 6, 3) := by decide +kernel
theorem d_X12_agent_17 : decode prog_14_method_51_code 17 = .ok (.sipush (-1001), 3) := by decide +kernel
theorem d_X12_agent_20 : decode prog_14_method_51_code 20 = .ok (.ireturn, 1) := by decide +kernel
theorem d_X12_agentMany_0 : decode prog_14_method_40_code 0 = .ok (.iconst 0, 1) := by decide +kernel
theorem d_X12_agentMany_1 : decode prog_14_method_40_code 1 = .ok (.istore_n 1, 1) := by decide +kernel
theorem d_X12_agentMany_2 : decode prog_14_method_40_code 2 = .ok (.iconst 0, 1) := by decide +kernel
theorem d_X12_agentMany_3 : decode prog_14_method_40_code 3 = .ok (.istore_n 2, 1) := by decide +kernel
theorem d_X12_agentMany_4 : decode prog_14_method_40_code 4 = .ok (.iload_n 2, 1) := by decide +kernel
theorem d_X12_agentMany_5 : decode prog_14_method_40_code 5 = .ok (.sipush 400, 3) := by decide +kernel
theorem d_X12_agentMany_8 : decode prog_14_method_40_code 8 = .ok (.if_icmp .ge 26, 3) := by decide +kernel
theorem d_X12_agentMany_11 : decode prog_14_method_40_code 11 = .ok (.iload_n 1, 1) := by decide +kernel
theorem d_X12_agentMany_12 : decode prog_14_method_40_code 12 = .ok (.aload_n 0, 1) := by decide +kernel
theorem d_X12_agentMany_13 : decode prog_14_method_40_code 13 = .ok (.getfield 49, 3) := by decide +kernel
theorem d_X12_agentMany_16 : decode prog_14_method_40_code 16 = .ok (.iload_n 2, 1) := by decide +kernel
theorem d_X12_agentMany_17 : decode prog_14_method_40_code 17 = .ok (.iaload, 1) := by decide +kernel
theorem d_X12_agentMany_18 : decode prog_14_method_40_code 18 = .ok (.ifCond .lt 7, 3) := by decide +kernel
theorem d_X12_agentMany_21 : decode prog_14_method_40_code 21 = .ok (.iconst 1, 1) := by decide +kernel
theorem d_X12_agentMany_22 : decode prog_14_method_40_code 22 = .ok (.goto 4, 3) := by decide +kernel
theorem d_X12_agentMany_25 : decode prog_14_method_40_code 25 = .ok (.iconst 0, 1) := by decide +kernel
theorem d_X12_agentMany_26 : decode prog_14_method_40_code 26 = .ok (.iadd, 1) := by decide +kernel
theorem d_X12_agentMany_27 : decode prog_14_method_40_code 27 = .ok (.istore_n 1, 1) := by decide +kernel
theorem d_X12_agentMany_28 : decode prog_14_method_40_code 28 = .ok (.iinc 2 1, 3) := by decide +kernel
theorem d_X12_agentMany_31 : decode prog_14_method_40_code 31 = .ok (.goto (-27), 3) := by decide +kernel
theorem d_X12_agentMany_34 : decode prog_14_method_40_code 34 = .ok (.iload_n 1, 1) := by decide +kernel
theorem d_X12_agentMany_35 : decode prog_14_method_40_code 35 = .ok (.ireturn, 1) := by decide +kernel
theorem d_X12_agentOf_0 : decode prog_14_method_71_code 0 = .ok (.iload_n 1, 1) := by decide +kernel
theorem d_X12_agentOf_1 : decode prog_14_method_71_code 1 = .ok (.ifCond .ne 12, 3) := by decide +kernel
theorem d_X12_agentOf_4 : decode prog_14_method_71_code 4 = .ok (.aload_n 0, 1) := by decide +kernel
theorem d_X12_agentOf_5 : decode prog_14_method_71_code 5 = .ok (.getfield 49, 3) := by decide +kernel
theorem d_X12_agentOf_8 : decode prog_14_method_71_code 8 = .ok (.iload_n 3, 1) := by decide +kernel
theorem d_X12_agentOf_9 : decode prog_14_method_71_code 9 = .ok (.iaload, 1) := by decide +kernel
theorem d_X12_agentOf_10 : decode prog_14_method_71_code 10 = .ok (.goto 15, 3) := by decide +kernel
theorem d_X12_agentOf_13 : decode prog_14_method_71_code 13 = .ok (.aload_n 0, 1) := by decide +kernel
theorem d_X12_agentOf_14 : decode prog_14_method_71_code 14 = .ok (.getfield 149, 3) := by decide +kernel
theorem d_X12_agentOf_17 : decode prog_14_method_71_code 17 = .ok (.sipush 400, 3) := by decide +kernel
theorem d_X12_agentOf_20 : decode prog_14_method_71_code 20 = .ok (.iload_n 2, 1) := by decide +kernel
theorem d_X12_agentOf_21 : decode prog_14_method_71_code 21 = .ok (.imul, 1) := by decide +kernel
theorem d_X12_agentOf_22 : decode prog_14_method_71_code 22 = .ok (.iload_n 3, 1) := by decide +kernel
theorem d_X12_agentOf_23 : decode prog_14_method_71_code 23 = .ok (.iadd, 1) := by decide +kernel
theorem d_X12_agentOf_24 : decode prog_14_method_71_code 24 = .ok (.iaload, 1) := by decide +kernel
theorem d_X12_agentOf_25 : decode prog_14_method_71_code 25 = .ok (.ireturn, 1) := by decide +kernel
theorem d_X12_asReached_0 : decode prog_14_method_76_code 0 = .ok (.iload_n 2, 1) := by decide +kernel
theorem d_X12_asReached_1 : decode prog_14_method_76_code 1 = .ok (.ifCond .ge 7, 3) := by decide +kernel
theorem d_X12_asReached_4 : decode prog_14_method_76_code 4 = .ok (.iload_n 2, 1) := by decide +kernel
theorem d_X12_asReached_5 : decode prog_14_method_76_code 5 = .ok (.goto 23, 3) := by decide +kernel
theorem d_X12_asReached_8 : decode prog_14_method_76_code 8 = .ok (.iconst 5, 1) := by decide +kernel
theorem d_X12_asReached_9 : decode prog_14_method_76_code 9 = .ok (.aload_n 0, 1) := by decide +kernel
theorem d_X12_asReached_10 : decode prog_14_method_76_code 10 = .ok (.getfield 167, 3) := by decide +kernel
theorem d_X12_asReached_13 : decode prog_14_method_76_code 13 = .ok (.sipush 400, 3) := by decide +kernel
theorem d_X12_asReached_16 : decode prog_14_method_76_code 16 = .ok (.iload_n 1, 1) := by decide +kernel
theorem d_X12_asReached_17 : decode prog_14_method_76_code 17 = .ok (.imul, 1) := by decide +kernel
theorem d_X12_asReached_18 : decode prog_14_method_76_code 18 = .ok (.iload_n 2, 1) := by decide +kernel
theorem d_X12_asReached_19 : decode prog_14_method_76_code 19 = .ok (.iconst 5, 1) := by decide +kernel
theorem d_X12_asReached_20 : decode prog_14_method_76_code 20 = .ok (.idiv, 1) := by decide +kernel
theorem d_X12_asReached_21 : decode prog_14_method_76_code 21 = .ok (.iadd, 1) := by decide +kernel
theorem d_X12_asReached_22 : decode prog_14_method_76_code 22 = .ok (.iaload, 1) := by decide +kernel
theorem d_X12_asReached_23 : decode prog_14_method_76_code 23 = .ok (.imul, 1) := by decide +kernel
theorem d_X12_asReached_24 : decode prog_14_method_76_code 24 = .ok (.iload_n 2, 1) := by decide +kernel
theorem d_X12_asReached_25 : decode prog_14_method_76_code 25 = .ok (.iconst 5, 1) := by decide +kernel
theorem d_X12_asReached_26 : decode prog_14_method_76_code 26 = .ok (.irem, 1) := by decide +kernel
theorem d_X12_asReached_27 : decode prog_14_method_76_code 27 = .ok (.iadd, 1) := by decide +kernel
theorem d_X12_asReached_28 : decode prog_14_method_76_code 28 = .ok (.ireturn, 1) := by decide +kernel
theorem d_X12_asTold_0 : decode prog_14_method_52_code 0 = .ok (.iload_n 0, 1) := by decide +kernel
theorem d_X12_asTold_1 : decode prog_14_method_52_code 1 = .ok (.ifCond .ge 7, 3) := by decide +kernel
theorem d_X12_asTold_4 : decode prog_14_method_52_code 4 = .ok (.iload_n 0, 1) := by decide +kernel
theorem d_X12_asTold_5 : decode prog_14_method_52_code 5 = .ok (.goto 13, 3) := by decide +kernel
theorem d_X12_asTold_8 : decode prog_14_method_52_code 8 = .ok (.bipush 8, 2) := by decide +kernel
theorem d_X12_asTold_10 : decode prog_14_method_52_code 10 = .ok (.iload_n 0, 1) := by decide +kernel
theorem d_X12_asTold_11 : decode prog_14_method_52_code 11 = .ok (.iconst 5, 1) := by decide +kernel
theorem d_X12_asTold_12 : decode prog_14_method_52_code 12 = .ok (.idiv, 1) := by decide +kernel
theorem d_X12_asTold_13 : decode prog_14_method_52_code 13 = .ok (.imul, 1) := by decide +kernel
theorem d_X12_asTold_14 : decode prog_14_method_52_code 14 = .ok (.iload_n 0, 1) := by decide +kernel
theorem d_X12_asTold_15 : decode prog_14_method_52_code 15 = .ok (.iconst 5, 1) := by decide +kernel
theorem d_X12_asTold_16 : decode prog_14_method_52_code 16 = .ok (.irem, 1) := by decide +kernel
theorem d_X12_asTold_17 : decode prog_14_method_52_code 17 = .ok (.iadd, 1) := by decide +kernel
theorem d_X12_asTold_18 : decode prog_14_method_52_code 18 = .ok (.ireturn, 1) := by decide +kernel
theorem d_X12_isShelf_0 : decode prog_14_method_68_code 0 = .ok (.iload_n 0, 1) := by decide +kernel
theorem d_X12_isShelf_1 : decode prog_14_method_68_code 1 = .ok (.i2l, 1) := by decide +kernel
theorem d_X12_isShelf_2 : decode prog_14_method_68_code 2 = .ok (.lconst 0, 1) := by decide +kernel
theorem d_X12_isShelf_3 : decode prog_14_method_68_code 3 = .ok (.ldc2_w 437, 3) := by decide +kernel
theorem d_X12_isShelf_6 : decode prog_14_method_68_code 6 = .ok (.invokestatic 191, 3) := by decide +kernel
theorem d_X12_isShelf_9 : decode prog_14_method_68_code 9 = .ok (.ireturn, 1) := by decide +kernel
theorem d_X12_back_0 : decode prog_14_method_70_code 0 = .ok (.iload_n 1, 1) := by decide +kernel
theorem d_X12_back_1 : decode prog_14_method_70_code 1 = .ok (.invokestatic 447, 3) := by decide +kernel
theorem d_X12_back_4 : decode prog_14_method_70_code 4 = .ok (.ifCond .ne 7, 3) := by decide +kernel
theorem d_X12_back_7 : decode prog_14_method_70_code 7 = .ok (.sipush (-1001), 3) := by decide +kernel
theorem d_X12_back_10 : decode prog_14_method_70_code 10 = .ok (.ireturn, 1) := by decide +kernel
theorem d_X12_back_11 : decode prog_14_method_70_code 11 = .ok (.aload_n 0, 1) := by decide +kernel
theorem d_X12_back_12 : decode prog_14_method_70_code 12 = .ok (.getfield 158, 3) := by decide +kernel
theorem d_X12_back_15 : decode prog_14_method_70_code 15 = .ok (.iload_n 1, 1) := by decide +kernel
theorem d_X12_back_16 : decode prog_14_method_70_code 16 = .ok (.iaload, 1) := by decide +kernel
theorem d_X12_back_17 : decode prog_14_method_70_code 17 = .ok (.ifCond .ge 7, 3) := by decide +kernel
theorem d_X12_back_20 : decode prog_14_method_70_code 20 = .ok (.sipush (-1003), 3) := by decide +kernel
theorem d_X12_back_23 : decode prog_14_method_70_code 23 = .ok (.ireturn, 1) := by decide +kernel
theorem d_X12_back_24 : decode prog_14_method_70_code 24 = .ok (.iconst 0, 1) := by decide +kernel
theorem d_X12_back_25 : decode prog_14_method_70_code 25 = .ok (.istore_n 2, 1) := by decide +kernel
theorem d_X12_back_26 : decode prog_14_method_70_code 26 = .ok (.iload_n 2, 1) := by decide +kernel
theorem d_X12_back_27 : decode prog_14_method_70_code 27 = .ok (.sipush 400, 3) := by decide +kernel
theorem d_X12_back_30 : decode prog_14_method_70_code 30 = .ok (.if_icmp .ge 27, 3) := by decide +kernel
theorem d_X12_back_33 : decode prog_14_method_70_code 33 = .ok (.aload_n 0, 1) := by decide +kernel
theorem d_X12_back_34 : decode prog_14_method_70_code 34 = .ok (.getfield 49, 3) := by decide +kernel
theorem d_X12_back_37 : decode prog_14_method_70_code 37 = .ok (.iload_n 2, 1) := by decide +kernel
theorem d_X12_back_38 : decode prog_14_method_70_code 38 = .ok (.aload_n 0, 1) := by decide +kernel
theorem d_X12_back_39 : decode prog_14_method_70_code 39 = .ok (.getfield 149, 3) := by decide +kernel
theorem d_X12_back_42 : decode prog_14_method_70_code 42 = .ok (.sipush 400, 3) := by decide +kernel
theorem d_X12_back_45 : decode prog_14_method_70_code 45 = .ok (.iload_n 1, 1) := by decide +kernel
theorem d_X12_back_46 : decode prog_14_method_70_code 46 = .ok (.imul, 1) := by decide +kernel
theorem d_X12_back_47 : decode prog_14_method_70_code 47 = .ok (.iload_n 2, 1) := by decide +kernel
theorem d_X12_back_48 : decode prog_14_method_70_code 48 = .ok (.iadd, 1) := by decide +kernel
theorem d_X12_back_49 : decode prog_14_method_70_code 49 = .ok (.iaload, 1) := by decide +kernel
theorem d_X12_back_50 : decode prog_14_method_70_code 50 = .ok (.iastore, 1) := by decide +kernel
theorem d_X12_back_51 : decode prog_14_method_70_code 51 = .ok (.iinc 2 1, 3) := by decide +kernel
theorem d_X12_back_54 : decode prog_14_method_70_code 54 = .ok (.goto (-28), 3) := by decide +kernel
theorem d_X12_back_57 : decode prog_14_method_70_code 57 = .ok (.iconst 0, 1) := by decide +kernel
theorem d_X12_back_58 : decode prog_14_method_70_code 58 = .ok (.istore_n 2, 1) := by decide +kernel
theorem d_X12_back_59 : decode prog_14_method_70_code 59 = .ok (.iload_n 2, 1) := by decide +kernel
theorem d_X12_back_60 : decode prog_14_method_70_code 60 = .ok (.sipush 2000, 3) := by decide +kernel
theorem d_X12_back_63 : decode prog_14_method_70_code 63 = .ok (.if_icmp .ge 27, 3) := by decide +kernel
theorem d_X12_back_66 : decode prog_14_method_70_code 66 = .ok (.aload_n 0, 1) := by decide +kernel
theorem d_X12_back_67 : decode prog_14_method_70_code 67 = .ok (.getfield 52, 3) := by decide +kernel
theorem d_X12_back_70 : decode prog_14_method_70_code 70 = .ok (.iload_n 2, 1) := by decide +kernel
theorem d_X12_back_71 : decode prog_14_method_70_code 71 = .ok (.aload_n 0, 1) := by decide +kernel
theorem d_X12_back_72 : decode prog_14_method_70_code 72 = .ok (.getfield 152, 3) := by decide +kernel
theorem d_X12_back_75 : decode prog_14_method_70_code 75 = .ok (.sipush 2000, 3) := by decide +kernel
theorem d_X12_back_78 : decode prog_14_method_70_code 78 = .ok (.iload_n 1, 1) := by decide +kernel
theorem d_X12_back_79 : decode prog_14_method_70_code 79 = .ok (.imul, 1) := by decide +kernel
theorem d_X12_back_80 : decode prog_14_method_70_code 80 = .ok (.iload_n 2, 1) := by decide +kernel
theorem d_X12_back_81 : decode prog_14_method_70_code 81 = .ok (.iadd, 1) := by decide +kernel
theorem d_X12_back_82 : decode prog_14_method_70_code 82 = .ok (.iaload, 1) := by decide +kernel
theorem d_X12_back_83 : decode prog_14_method_70_code 83 = .ok (.iastore, 1) := by decide +kernel
theorem d_X12_back_84 : decode prog_14_method_70_code 84 = .ok (.iinc 2 1, 3) := by decide +kernel
theorem d_X12_back_87 : decode prog_14_method_70_code 87 = .ok (.goto (-28), 3) := by decide +kernel
theorem d_X12_back_90 : decode prog_14_method_70_code 90 = .ok (.iconst 0, 1) := by decide +kernel
theorem d_X12_back_91 : decode prog_14_method_70_code 91 = .ok (.istore_n 2, 1) := by decide +kernel
theorem d_X12_back_92 : decode prog_14_method_70_code 92 = .ok (.iload_n 2, 1) := by decide +kernel
theorem d_X12_back_93 : decode prog_14_method_70_code 93 = .ok (.bipush 8, 2) := by decide +kernel
theorem d_X12_back_95 : decode prog_14_method_70_code 95 = .ok (.if_icmp .ge 26, 3) := by decide +kernel
theorem d_X12_back_98 : decode prog_14_method_70_code 98 = .ok (.aload_n 0, 1) := by decide +kernel
theorem d_X12_back_99 : decode prog_14_method_70_code 99 = .ok (.getfield 55, 3) := by decide +kernel
theorem d_X12_back_102 : decode prog_14_method_70_code 102 = .ok (.iload_n 2, 1) := by decide +kernel
theorem d_X12_back_103 : decode prog_14_method_70_code 103 = .ok (.aload_n 0, 1) := by decide +kernel
theorem d_X12_back_104 : decode prog_14_method_70_code 104 = .ok (.getfield 155, 3) := by decide +kernel
theorem d_X12_back_107 : decode prog_14_method_70_code 107 = .ok (.bipush 8, 2) := by decide +kernel
theorem d_X12_back_109 : decode prog_14_method_70_code 109 = .ok (.iload_n 1, 1) := by decide +kernel
theorem d_X12_back_110 : decode prog_14_method_70_code 110 = .ok (.imul, 1) := by decide +kernel
theorem d_X12_back_111 : decode prog_14_method_70_code 111 = .ok (.iload_n 2, 1) := by decide +kernel
theorem d_X12_back_112 : decode prog_14_method_70_code 112 = .ok (.iadd, 1) := by decide +kernel
theorem d_X12_back_113 : decode prog_14_method_70_code 113 = .ok (.iaload, 1) := by decide +kernel
theorem d_X12_back_114 : decode prog_14_method_70_code 114 = .ok (.iastore, 1) := by decide +kernel
theorem d_X12_back_115 : decode prog_14_method_70_code 115 = .ok (.iinc 2 1, 3) := by decide +kernel
theorem d_X12_back_118 : decode prog_14_method_70_code 118 = .ok (.goto (-26), 3) := by decide +kernel
theorem d_X12_back_121 : decode prog_14_method_70_code 121 = .ok (.aload_n 0, 1) := by decide +kernel
theorem d_X12_back_122 : decode prog_14_method_70_code 122 = .ok (.aload_n 0, 1) := by decide +kernel
theorem d_X12_back_123 : decode prog_14_method_70_code 123 = .ok (.getfield 158, 3) := by decide +kernel
theorem d_X12_back_126 : decode prog_14_method_70_code 126 = .ok (.iload_n 1, 1) := by decide +kernel
theorem d_X12_back_127 : decode prog_14_method_70_code 127 = .ok (.iaload, 1) := by decide +kernel
theorem d_X12_back_128 : decode prog_14_method_70_code 128 = .ok (.putfield 182, 3) := by decide +kernel
theorem d_X12_back_131 : decode prog_14_method_70_code 131 = .ok (.aload_n 0, 1) := by decide +kernel
theorem d_X12_back_132 : decode prog_14_method_70_code 132 = .ok (.aload_n 0, 1) := by decide +kernel
theorem d_X12_back_133 : decode prog_14_method_70_code 133 = .ok (.getfield 161, 3) := by decide +kernel
theorem d_X12_back_136 : decode prog_14_method_70_code 136 = .ok (.iload_n 1, 1) := by decide +kernel
theorem d_X12_back_137 : decode prog_14_method_70_code 137 = .ok (.iaload, 1) := by decide +kernel
theorem d_X12_back_138 : decode prog_14_method_70_code 138 = .ok (.putfield 185, 3) := by decide +kernel
theorem d_X12_back_141 : decode prog_14_method_70_code 141 = .ok (.aload_n 0, 1) := by decide +kernel
theorem d_X12_back_142 : decode prog_14_method_70_code 142 = .ok (.invokevirtual 388, 3) := by decide +kernel
theorem d_X12_back_145 : decode prog_14_method_70_code 145 = .ok (.istore_n 2, 1) := by decide +kernel
theorem d_X12_back_146 : decode prog_14_method_70_code 146 = .ok (.aload_n 0, 1) := by decide +kernel
theorem d_X12_back_147 : decode prog_14_method_70_code 147 = .ok (.iload_n 2, 1) := by decide +kernel
theorem d_X12_back_148 : decode prog_14_method_70_code 148 = .ok (.aload_n 0, 1) := by decide +kernel
theorem d_X12_back_149 : decode prog_14_method_70_code 149 = .ok (.getfield 363, 3) := by decide +kernel
theorem d_X12_back_152 : decode prog_14_method_70_code 152 = .ok (.if_icmp .le 7, 3) := by decide +kernel
theorem d_X12_back_155 : decode prog_14_method_70_code 155 = .ok (.iload_n 2, 1) := by decide +kernel
theorem d_X12_back_156 : decode prog_14_method_70_code 156 = .ok (.goto 7, 3) := by decide +kernel
theorem d_X12_back_159 : decode prog_14_method_70_code 159 = .ok (.aload_n 0, 1) := by decide +kernel
theorem d_X12_back_160 : decode prog_14_method_70_code 160 = .ok (.getfield 363, 3) := by decide +kernel
theorem d_X12_back_163 : decode prog_14_method_70_code 163 = .ok (.putfield 363, 3) := by decide +kernel
theorem d_X12_back_166 : decode prog_14_method_70_code 166 = .ok (.iload_n 2, 1) := by decide +kernel
theorem d_X12_back_167 : decode prog_14_method_70_code 167 = .ok (.ireturn, 1) := by decide +kernel
theorem d_X12_beginSheet_0 : decode prog_14_method_20_code 0 = .ok (.aload_n 0, 1) := by decide +kernel
theorem d_X12_beginSheet_1 : decode prog_14_method_20_code 1 = .ok (.iconst 0, 1) := by decide +kernel
theorem d_X12_beginSheet_2 : decode prog_14_method_20_code 2 = .ok (.putfield 261, 3) := by decide +kernel
theorem d_X12_beginSheet_5 : decode prog_14_method_20_code 5 = .ok (.aload_n 0, 1) := by decide +kernel
theorem d_X12_beginSheet_6 : decode prog_14_method_20_code 6 = .ok (.iload_n 1, 1) := by decide +kernel
theorem d_X12_beginSheet_7 : decode prog_14_method_20_code 7 = .ok (.putfield 264, 3) := by decide +kernel
theorem d_X12_beginSheet_10 : decode prog_14_method_20_code 10 = .ok (.aload_n 0, 1) := by decide +kernel
theorem d_X12_beginSheet_11 : decode prog_14_method_20_code 11 = .ok (.iconst 0, 1) := by decide +kernel
theorem d_X12_beginSheet_12 : decode prog_14_method_20_code 12 = .ok (.putfield 267, 3) := by decide +kernel
theorem d_X12_beginSheet_15 : decode prog_14_method_20_code 15 = .ok (.return_, 1) := by decide +kernel
theorem d_X12_byteAt_0 : decode prog_14_method_7_code 0 = .ok (.iload_n 1, 1) := by decide +kernel
theorem d_X12_byteAt_1 : decode prog_14_method_7_code 1 = .ok (.aload_n 0, 1) := by decide +kernel
theorem d_X12_byteAt_2 : decode prog_14_method_7_code 2 = .ok (.getfield 188, 3) := by decide +kernel
theorem d_X12_byteAt_5 : decode prog_14_method_7_code 5 = .ok (.if_icmp .ge 12, 3) := by decide +kernel
theorem d_X12_byteAt_8 : decode prog_14_method_7_code 8 = .ok (.aload_n 0, 1) := by decide +kernel
theorem d_X12_byteAt_9 : decode prog_14_method_7_code 9 = .ok (.getfield 7, 3) := by decide +kernel
theorem d_X12_byteAt_12 : decode prog_14_method_7_code 12 = .ok (.iload_n 1, 1) := by decide +kernel
theorem d_X12_byteAt_13 : decode prog_14_method_7_code 13 = .ok (.iaload, 1) := by decide +kernel
theorem d_X12_byteAt_14 : decode prog_14_method_7_code 14 = .ok (.goto 4, 3) := by decide +kernel
theorem d_X12_byteAt_17 : decode prog_14_method_7_code 17 = .ok (.iconst 0, 1) := by decide +kernel
theorem d_X12_byteAt_18 : decode prog_14_method_7_code 18 = .ok (.ireturn, 1) := by decide +kernel
theorem d_X12_facing_0 : decode prog_14_method_42_code 0 = .ok (.aload_n 0, 1) := by decide +kernel
theorem d_X12_facing_1 : decode prog_14_method_42_code 1 = .ok (.getfield 49, 3) := by decide +kernel
theorem d_X12_facing_4 : decode prog_14_method_42_code 4 = .ok (.iload_n 1, 1) := by decide +kernel
theorem d_X12_facing_5 : decode prog_14_method_42_code 5 = .ok (.iaload, 1) := by decide +kernel
theorem d_X12_facing_6 : decode prog_14_method_42_code 6 = .ok (.ifCond .lt 14, 3) := by decide +kernel
theorem d_X12_facing_9 : decode prog_14_method_42_code 9 = .ok (.aload_n 0, 1) := by decide +kernel
theorem d_X12_facing_10 : decode prog_14_method_42_code 10 = .ok (.getfield 52, 3) := by decide +kernel
theorem d_X12_facing_13 : decode prog_14_method_42_code 13 = .ok (.iconst 5, 1) := by decide +kernel
theorem d_X12_facing_14 : decode prog_14_method_42_code 14 = .ok (.iload_n 1, 1) := by decide +kernel
theorem d_X12_facing_15 : decode prog_14_method_42_code 15 = .ok (.imul, 1) := by decide +kernel
theorem d_X12_facing_16 : decode prog_14_method_42_code 16 = .ok (.iaload, 1) := by decide +kernel
theorem d_X12_facing_17 : decode prog_14_method_42_code 17 = .ok (.goto 4, 3) := by decide +kernel
theorem d_X12_facing_20 : decode prog_14_method_42_code 20 = .ok (.iconst (-1), 1) := by decide +kernel
theorem d_X12_facing_21 : decode prog_14_method_42_code 21 = .ok (.istore_n 2, 1) := by decide +kernel
theorem d_X12_facing_22 : decode prog_14_method_42_code 22 = .ok (.iload_n 2, 1) := by decide +kernel
theorem d_X12_facing_23 : decode prog_14_method_42_code 23 = .ok (.ifCond .lt 15, 3) := by decide +kernel
theorem d_X12_facing_26 : decode prog_14_method_42_code 26 = .ok (.iload_n 2, 1) := by decide +kernel
theorem d_X12_facing_27 : decode prog_14_method_42_code 27 = .ok (.iconst 5, 1) := by decide +kernel
theorem d_X12_facing_28 : decode prog_14_method_42_code 28 = .ok (.irem, 1) := by decide +kernel
theorem d_X12_facing_29 : decode prog_14_method_42_code 29 = .ok (.ifCond .ne 9, 3) := by decide +kernel
theorem d_X12_facing_32 : decode prog_14_method_42_code 32 = .ok (.iload_n 2, 1) := by decide +kernel
theorem d_X12_facing_33 : decode prog_14_method_42_code 33 = .ok (.iconst 5, 1) := by decide +kernel
theorem d_X12_facing_34 : decode prog_14_method_42_code 34 = .ok (.idiv, 1) := by decide +kernel
theorem d_X12_facing_35 : decode prog_14_method_42_code 35 = .ok (.goto 4, 3) := by decide +kernel
theorem d_X12_facing_38 : decode prog_14_method_42_code 38 = .ok (.iconst (-1), 1) := by decide +kernel
theorem d_X12_facing_39 : decode prog_14_method_42_code 39 = .ok (.ireturn, 1) := by decide +kernel
theorem d_X12_ruleFor_0 : decode prog_14_method_43_code 0 = .ok (.aload_n 0, 1) := by decide +kernel
theorem d_X12_ruleFor_1 : decode prog_14_method_43_code 1 = .ok (.getfield 31, 3) := by decide +kernel
theorem d_X12_ruleFor_4 : decode prog_14_method_43_code 4 = .ok (.bipush 16, 2) := by decide +kernel
theorem d_X12_ruleFor_6 : decode prog_14_method_43_code 6 = .ok (.aload_n 0, 1) := by decide +kernel
theorem d_X12_ruleFor_7 : decode prog_14_method_43_code 7 = .ok (.getfield 49, 3) := by decide +kernel
theorem d_X12_ruleFor_10 : decode prog_14_method_43_code 10 = .ok (.iload_n 1, 1) := by decide +kernel
theorem d_X12_ruleFor_11 : decode prog_14_method_43_code 11 = .ok (.iaload, 1) := by decide +kernel
theorem d_X12_ruleFor_12 : decode prog_14_method_43_code 12 = .ok (.imul, 1) := by decide +kernel
theorem d_X12_ruleFor_13 : decode prog_14_method_43_code 13 = .ok (.aload_n 0, 1) := by decide +kernel
theorem d_X12_ruleFor_14 : decode prog_14_method_43_code 14 = .ok (.getfield 49, 3) := by decide +kernel
theorem d_X12_ruleFor_17 : decode prog_14_method_43_code 17 = .ok (.iload_n 2, 1) := by decide +kernel
theorem d_X12_ruleFor_18 : decode prog_14_method_43_code 18 = .ok (.iaload, 1) := by decide +kernel
theorem d_X12_ruleFor_19 : decode prog_14_method_43_code 19 = .ok (.iadd, 1) := by decide +kernel
theorem d_X12_ruleFor_20 : decode prog_14_method_43_code 20 = .ok (.iaload, 1) := by decide +kernel
theorem d_X12_ruleFor_21 : decode prog_14_method_43_code 21 = .ok (.ireturn, 1) := by decide +kernel
theorem d_X12_isPair_0 : decode prog_14_method_44_code 0 = .ok (.aload_n 0, 1) := by decide +kernel
theorem d_X12_isPair_1 : decode prog_14_method_44_code 1 = .ok (.iload_n 1, 1) := by decide +kernel
theorem d_X12_isPair_2 : decode prog_14_method_44_code 2 = .ok (.invokevirtual 374, 3) := by decide +kernel
theorem d_X12_isPair_5 : decode prog_14_method_44_code 5 = .ok (.istore_n 3, 1) := by decide +kernel
theorem d_X12_isPair_6 : decode prog_14_method_44_code 6 = .ok (.iload_n 3, 1) := by decide +kernel
theorem d_X12_isPair_7 : decode prog_14_method_44_code 7 = .ok (.iload_n 1, 1) := by decide +kernel
theorem d_X12_isPair_8 : decode prog_14_method_44_code 8 = .ok (.if_icmp .le 25, 3) := by decide +kernel
theorem d_X12_isPair_11 : decode prog_14_method_44_code 11 = .ok (.aload_n 0, 1) := by decide +kernel
theorem d_X12_isPair_12 : decode prog_14_method_44_code 12 = .ok (.iload_n 1, 1) := by decide +kernel
theorem d_X12_isPair_13 : decode prog_14_method_44_code 13 = .ok (.iload_n 3, 1) := by decide +kernel
theorem d_X12_isPair_14 : decode prog_14_method_44_code 14 = .ok (.invokevirtual 377, 3) := by decide +kernel
theorem d_X12_isPair_17 : decode prog_14_method_44_code 17 = .ok (.ifCond .lt 7, 3) := by decide +kernel
theorem d_X12_isPair_20 : decode prog_14_method_44_code 20 = .ok (.iconst 1, 1) := by decide +kernel
theorem d_X12_isPair_21 : decode prog_14_method_44_code 21 = .ok (.goto 4, 3) := by decide +kernel
theorem d_X12_isPair_24 : decode prog_14_method_44_code 24 = .ok (.iconst 0, 1) := by decide +kernel
theorem d_X12_isPair_25 : decode prog_14_method_44_code 25 = .ok (.iload_n 2, 1) := by decide +kernel
theorem d_X12_isPair_26 : decode prog_14_method_44_code 26 = .ok (.if_icmp .ne 7, 3) := by decide +kernel
theorem d_X12_isPair_29 : decode prog_14_method_44_code 29 = .ok (.iconst 1, 1) := by decide +kernel
theorem d_X12_isPair_30 : decode prog_14_method_44_code 30 = .ok (.goto 4, 3) := by decide +kernel
theorem d_X12_isPair_33 : decode prog_14_method_44_code 33 = .ok (.iconst 0, 1) := by decide +kernel
theorem d_X12_isPair_34 : decode prog_14_method_44_code 34 = .ok (.ireturn, 1) := by decide +kernel
theorem d_X12_pair_0 : decode prog_14_method_55_code 0 = .ok (.iload_n 1, 1) := by decide +kernel
theorem d_X12_pair_1 : decode prog_14_method_55_code 1 = .ok (.istore_n 2, 1) := by decide +kernel
theorem d_X12_pair_2 : decode prog_14_method_55_code 2 = .ok (.iconst 0, 1) := by decide +kernel
theorem d_X12_pair_3 : decode prog_14_method_55_code 3 = .ok (.istore_n 3, 1) := by decide +kernel
theorem d_X12_pair_4 : decode prog_14_method_55_code 4 = .ok (.iload_n 3, 1) := by decide +kernel
theorem d_X12_pair_5 : decode prog_14_method_55_code 5 = .ok (.sipush 400, 3) := by decide +kernel
theorem d_X12_pair_8 : decode prog_14_method_55_code 8 = .ok (.if_icmp .ge 27, 3) := by decide +kernel
theorem d_X12_pair_11 : decode prog_14_method_55_code 11 = .ok (.aload_n 0, 1) := by decide +kernel
theorem d_X12_pair_12 : decode prog_14_method_55_code 12 = .ok (.iload_n 3, 1) := by decide +kernel
theorem d_X12_pair_13 : decode prog_14_method_55_code 13 = .ok (.iconst 1, 1) := by decide +kernel
theorem d_X12_pair_14 : decode prog_14_method_55_code 14 = .ok (.invokevirtual 381, 3) := by decide +kernel
theorem d_X12_pair_17 : decode prog_14_method_55_code 17 = .ok (.ifCond .eq 12, 3) := by decide +kernel
theorem d_X12_pair_20 : decode prog_14_method_55_code 20 = .ok (.iload_n 2, 1) := by decide +kernel
theorem d_X12_pair_21 : decode prog_14_method_55_code 21 = .ok (.ifCond .ne 5, 3) := by decide +kernel
theorem d_X12_pair_24 : decode prog_14_method_55_code 24 = .ok (.iload_n 3, 1) := by decide +kernel
theorem d_X12_pair_25 : decode prog_14_method_55_code 25 = .ok (.ireturn, 1) := by decide +kernel
theorem d_X12_pair_26 : decode prog_14_method_55_code 26 = .ok (.iinc 2 (-1), 3) := by decide +kernel
theorem d_X12_pair_29 : decode prog_14_method_55_code 29 = .ok (.iinc 3 1, 3) := by decide +kernel
theorem d_X12_pair_32 : decode prog_14_method_55_code 32 = .ok (.goto (-28), 3) := by decide +kernel
theorem d_X12_pair_35 : decode prog_14_method_55_code 35 = .ok (.iconst (-1), 1) := by decide +kernel
theorem d_X12_pair_36 : decode prog_14_method_55_code 36 = .ok (.ireturn, 1) := by decide +kernel
theorem d_X12_pairs_0 : decode prog_14_method_45_code 0 = .ok (.iconst 0, 1) := by decide +kernel
theorem d_X12_pairs_1 : decode prog_14_method_45_code 1 = .ok (.istore_n 2, 1) := by decide +kernel
theorem d_X12_pairs_2 : decode prog_14_method_45_code 2 = .ok (.iconst 0, 1) := by decide +kernel
theorem d_X12_pairs_3 : decode prog_14_method_45_code 3 = .ok (.istore_n 3, 1) := by decide +kernel
theorem d_X12_pairs_4 : decode prog_14_method_45_code 4 = .ok (.iload_n 3, 1) := by decide +kernel
theorem d_X12_pairs_5 : decode prog_14_method_45_code 5 = .ok (.sipush 400, 3) := by decide +kernel
theorem d_X12_pairs_8 : decode prog_14_method_45_code 8 = .ok (.if_icmp .ge 26, 3) := by decide +kernel
theorem d_X12_pairs_11 : decode prog_14_method_45_code 11 = .ok (.iload_n 2, 1) := by decide +kernel
theorem d_X12_pairs_12 : decode prog_14_method_45_code 12 = .ok (.aload_n 0, 1) := by decide +kernel
theorem d_X12_pairs_13 : decode prog_14_method_45_code 13 = .ok (.iload_n 3, 1) := by decide +kernel
theorem d_X12_pairs_14 : decode prog_14_method_45_code 14 = .ok (.iload_n 1, 1) := by decide +kernel
theorem d_X12_pairs_15 : decode prog_14_method_45_code 15 = .ok (.invokevirtual 381, 3) := by decide +kernel
theorem d_X12_pairs_18 : decode prog_14_method_45_code 18 = .ok (.ifCond .eq 7, 3) := by decide +kernel
theorem d_X12_pairs_21 : decode prog_14_method_45_code 21 = .ok (.iconst 1, 1) := by decide +kernel
theorem d_X12_pairs_22 : decode prog_14_method_45_code 22 = .ok (.goto 4, 3) := by decide +kernel
theorem d_X12_pairs_25 : decode prog_14_method_45_code 25 = .ok (.iconst 0, 1) := by decide +kernel
theorem d_X12_pairs_26 : decode prog_14_method_45_code 26 = .ok (.iadd, 1) := by decide +kernel
theorem d_X12_pairs_27 : decode prog_14_method_45_code 27 = .ok (.istore_n 2, 1) := by decide +kernel
theorem d_X12_pairs_28 : decode prog_14_method_45_code 28 = .ok (.iinc 3 1, 3) := by decide +kernel
theorem d_X12_pairs_31 : decode prog_14_method_45_code 31 = .ok (.goto (-27), 3) := by decide +kernel
theorem d_X12_pairs_34 : decode prog_14_method_45_code 34 = .ok (.iload_n 2, 1) := by decide +kernel
theorem d_X12_pairs_35 : decode prog_14_method_45_code 35 = .ok (.ireturn, 1) := by decide +kernel
theorem d_X12_chosen_0 : decode prog_14_method_63_code 0 = .ok (.aload_n 0, 1) := by decide +kernel
theorem d_X12_chosen_1 : decode prog_14_method_63_code 1 = .ok (.iconst 1, 1) := by decide +kernel
theorem d_X12_chosen_2 : decode prog_14_method_63_code 2 = .ok (.invokevirtual 391, 3) := by decide +kernel
theorem d_X12_chosen_5 : decode prog_14_method_63_code 5 = .ok (.istore_n 2, 1) := by decide +kernel
theorem d_X12_chosen_6 : decode prog_14_method_63_code 6 = .ok (.iload_n 2, 1) := by decide +kernel
theorem d_X12_chosen_7 : decode prog_14_method_63_code 7 = .ok (.ifCond .ne 5, 3) := by decide +kernel
theorem d_X12_chosen_10 : decode prog_14_method_63_code 10 = .ok (.iconst (-1), 1) := by decide +kernel
theorem d_X12_chosen_11 : decode prog_14_method_63_code 11 = .ok (.ireturn, 1) := by decide +kernel
theorem d_X12_chosen_12 : decode prog_14_method_63_code 12 = .ok (.iload_n 1, 1) := by decide +kernel
theorem d_X12_chosen_13 : decode prog_14_method_63_code 13 = .ok (.iconst 3, 1) := by decide +kernel
theorem d_X12_chosen_14 : decode prog_14_method_63_code 14 = .ok (.if_icmp .ne 19, 3) := by decide +kernel
theorem d_X12_chosen_17 : decode prog_14_method_63_code 17 = .ok (.aload_n 0, 1) := by decide +kernel
theorem d_X12_chosen_18 : decode prog_14_method_63_code 18 = .ok (.aload_n 0, 1) := by decide +kernel
theorem d_X12_chosen_19 : decode prog_14_method_63_code 19 = .ok (.getfield 58, 3) := by decide +kernel
theorem d_X12_chosen_22 : decode prog_14_method_63_code 22 = .ok (.ldc2_w 430, 3) := by decide +kernel
theorem d_X12_chosen_25 : decode prog_14_method_63_code 25 = .ok (.lmul, 1) := by decide +kernel
theorem d_X12_chosen_26 : decode prog_14_method_63_code 26 = .ok (.ldc2_w 432, 3) := by decide +kernel
theorem d_X12_chosen_29 : decode prog_14_method_63_code 29 = .ok (.ladd, 1) := by decide +kernel
theorem d_X12_chosen_30 : decode prog_14_method_63_code 30 = .ok (.putfield 58, 3) := by decide +kernel
theorem d_X12_chosen_33 : decode prog_14_method_63_code 33 = .ok (.aload_n 0, 1) := by decide +kernel
theorem d_X12_chosen_34 : decode prog_14_method_63_code 34 = .ok (.iload_n 1, 1) := by decide +kernel
theorem d_X12_chosen_35 : decode prog_14_method_63_code 35 = .ok (.ifCond .ne 7, 3) := by decide +kernel
theorem d_X12_chosen_38 : decode prog_14_method_63_code 38 = .ok (.iconst 0, 1) := by decide +kernel
theorem d_X12_chosen_39 : decode prog_14_method_63_code 39 = .ok (.goto 25, 3) := by decide +kernel
theorem d_X12_chosen_42 : decode prog_14_method_63_code 42 = .ok (.iload_n 1, 1) := by decide +kernel
theorem d_X12_chosen_43 : decode prog_14_method_63_code 43 = .ok (.iconst 1, 1) := by decide +kernel
theorem d_X12_chosen_44 : decode prog_14_method_63_code 44 = .ok (.if_icmp .ne 9, 3) := by decide +kernel
theorem d_X12_chosen_47 : decode prog_14_method_63_code 47 = .ok (.iload_n 2, 1) := by decide +kernel
theorem d_X12_chosen_48 : decode prog_14_method_63_code 48 = .ok (.iconst 1, 1) := by decide +kernel
theorem d_X12_chosen_49 : decode prog_14_method_63_code 49 = .ok (.isub, 1) := by decide +kernel
theorem d_X12_chosen_50 : decode prog_14_method_63_code 50 = .ok (.goto 14, 3) := by decide +kernel
theorem d_X12_chosen_53 : decode prog_14_method_63_code 53 = .ok (.aload_n 0, 1) := by decide +kernel
theorem d_X12_chosen_54 : decode prog_14_method_63_code 54 = .ok (.getfield 58, 3) := by decide +kernel
theorem d_X12_chosen_57 : decode prog_14_method_63_code 57 = .ok (.bipush 33, 2) := by decide +kernel
theorem d_X12_chosen_59 : decode prog_14_method_63_code 59 = .ok (.lushr, 1) := by decide +kernel
theorem d_X12_chosen_60 : decode prog_14_method_63_code 60 = .ok (.iload_n 2, 1) := by decide +kernel
theorem d_X12_chosen_61 : decode prog_14_method_63_code 61 = .ok (.i2l, 1) := by decide +kernel
theorem d_X12_chosen_62 : decode prog_14_method_63_code 62 = .ok (.lrem, 1) := by decide +kernel
theorem d_X12_chosen_63 : decode prog_14_method_63_code 63 = .ok (.l2i, 1) := by decide +kernel
theorem d_X12_chosen_64 : decode prog_14_method_63_code 64 = .ok (.invokevirtual 434, 3) := by decide +kernel
theorem d_X12_chosen_67 : decode prog_14_method_63_code 67 = .ok (.ireturn, 1) := by decide +kernel
theorem d_X12_waitsFor_0 : decode prog_14_method_46_code 0 = .ok (.aload_n 0, 1) := by decide +kernel
theorem d_X12_waitsFor_1 : decode prog_14_method_46_code 1 = .ok (.getfield 49, 3) := by decide +kernel
theorem d_X12_waitsFor_4 : decode prog_14_method_46_code 4 = .ok (.iload_n 1, 1) := by decide +kernel
theorem d_X12_waitsFor_5 : decode prog_14_method_46_code 5 = .ok (.iaload, 1) := by decide +kernel
theorem d_X12_waitsFor_6 : decode prog_14_method_46_code 6 = .ok (.ifCond .lt 14, 3) := by decide +kernel
theorem d_X12_waitsFor_9 : decode prog_14_method_46_code 9 = .ok (.aload_n 0, 1) := by decide +kernel
theorem d_X12_waitsFor_10 : decode prog_14_method_46_code 10 = .ok (.getfield 52, 3) := by decide +kernel
theorem d_X12_waitsFor_13 : decode prog_14_method_46_code 13 = .ok (.iconst 5, 1) := by decide +kernel
theorem d_X12_waitsFor_14 : decode prog_14_method_46_code 14 = .ok (.iload_n 1, 1) := by decide +kernel
theorem d_X12_waitsFor_15 : decode prog_14_method_46_code 15 = .ok (.imul, 1) := by decide +kernel
theorem d_X12_waitsFor_16 : decode prog_14_method_46_code 16 = .ok (.iaload, 1) := by decide +kernel
theorem d_X12_waitsFor_17 : decode prog_14_method_46_code 17 = .ok (.goto 4, 3) := by decide +kernel
theorem d_X12_waitsFor_20 : decode prog_14_method_46_code 20 = .ok (.iconst (-1), 1) := by decide +kernel
theorem d_X12_waitsFor_21 : decode prog_14_method_46_code 21 = .ok (.istore_n 2, 1) := by decide +kernel
theorem d_X12_waitsFor_22 : decode prog_14_method_46_code 22 = .ok (.iload_n 2, 1) := by decide +kernel
theorem d_X12_waitsFor_23 : decode prog_14_method_46_code 23 = .ok (.ifCond .lt 15, 3) := by decide +kernel
theorem d_X12_waitsFor_26 : decode prog_14_method_46_code 26 = .ok (.iload_n 2, 1) := by decide +kernel
theorem d_X12_waitsFor_27 : decode prog_14_method_46_code 27 = .ok (.iconst 5, 1) := by decide +kernel
theorem d_X12_waitsFor_28 : decode prog_14_method_46_code 28 = .ok (.irem, 1) := by decide +kernel
theorem d_X12_waitsFor_29 : decode prog_14_method_46_code 29 = .ok (.ifCond .eq 9, 3) := by decide +kernel
theorem d_X12_waitsFor_32 : decode prog_14_method_46_code 32 = .ok (.iload_n 2, 1) := by decide +kernel
theorem d_X12_waitsFor_33 : decode prog_14_method_46_code 33 = .ok (.iconst 5, 1) := by decide +kernel
theorem d_X12_waitsFor_34 : decode prog_14_method_46_code 34 = .ok (.idiv, 1) := by decide +kernel
theorem d_X12_waitsFor_35 : decode prog_14_method_46_code 35 = .ok (.goto 4, 3) := by decide +kernel
theorem d_X12_waitsFor_38 : decode prog_14_method_46_code 38 = .ok (.iconst (-1), 1) := by decide +kernel
theorem d_X12_waitsFor_39 : decode prog_14_method_46_code 39 = .ok (.ireturn, 1) := by decide +kernel
theorem d_X12_circles_0 : decode prog_14_method_47_code 0 = .ok (.iconst 0, 1) := by decide +kernel
theorem d_X12_circles_1 : decode prog_14_method_47_code 1 = .ok (.istore_n 1, 1) := by decide +kernel
theorem d_X12_circles_2 : decode prog_14_method_47_code 2 = .ok (.iconst 0, 1) := by decide +kernel
theorem d_X12_circles_3 : decode prog_14_method_47_code 3 = .ok (.istore_n 2, 1) := by decide +kernel
theorem d_X12_circles_4 : decode prog_14_method_47_code 4 = .ok (.iload_n 2, 1) := by decide +kernel
theorem d_X12_circles_5 : decode prog_14_method_47_code 5 = .ok (.sipush 400, 3) := by decide +kernel
theorem d_X12_circles_8 : decode prog_14_method_47_code 8 = .ok (.if_icmp .ge 56, 3) := by decide +kernel
theorem d_X12_circles_11 : decode prog_14_method_47_code 11 = .ok (.aload_n 0, 1) := by decide +kernel
theorem d_X12_circles_12 : decode prog_14_method_47_code 12 = .ok (.iload_n 2, 1) := by decide +kernel
theorem d_X12_circles_13 : decode prog_14_method_47_code 13 = .ok (.invokevirtual 385, 3) := by decide +kernel
theorem d_X12_circles_16 : decode prog_14_method_47_code 16 = .ok (.istore_n 3, 1) := by decide +kernel
theorem d_X12_circles_17 : decode prog_14_method_47_code 17 = .ok (.iconst 0, 1) := by decide +kernel
theorem d_X12_circles_18 : decode prog_14_method_47_code 18 = .ok (.istore 4, 2) := by decide +kernel
theorem d_X12_circles_20 : decode prog_14_method_47_code 20 = .ok (.iload 4, 2) := by decide +kernel
theorem d_X12_circles_22 : decode prog_14_method_47_code 22 = .ok (.sipush 400, 3) := by decide +kernel
theorem d_X12_circles_25 : decode prog_14_method_47_code 25 = .ok (.if_icmp .ge 20, 3) := by decide +kernel
theorem d_X12_circles_28 : decode prog_14_method_47_code 28 = .ok (.iload_n 3, 1) := by decide +kernel
theorem d_X12_circles_29 : decode prog_14_method_47_code 29 = .ok (.iload_n 2, 1) := by decide +kernel
theorem d_X12_circles_30 : decode prog_14_method_47_code 30 = .ok (.if_icmp .le 15, 3) := by decide +kernel
theorem d_X12_circles_33 : decode prog_14_method_47_code 33 = .ok (.aload_n 0, 1) := by decide +kernel
theorem d_X12_circles_34 : decode prog_14_method_47_code 34 = .ok (.iload_n 3, 1) := by decide +kernel
theorem d_X12_circles_35 : decode prog_14_method_47_code 35 = .ok (.invokevirtual 385, 3) := by decide +kernel
theorem d_X12_circles_38 : decode prog_14_method_47_code 38 = .ok (.istore_n 3, 1) := by decide +kernel
theorem d_X12_circles_39 : decode prog_14_method_47_code 39 = .ok (.iinc 4 1, 3) := by decide +kernel
theorem d_X12_circles_42 : decode prog_14_method_47_code 42 = .ok (.goto (-22), 3) := by decide +kernel
theorem d_X12_circles_45 : decode prog_14_method_47_code 45 = .ok (.iload_n 1, 1) := by decide +kernel
theorem d_X12_circles_46 : decode prog_14_method_47_code 46 = .ok (.iload_n 3, 1) := by decide +kernel
theorem d_X12_circles_47 : decode prog_14_method_47_code 47 = .ok (.iload_n 2, 1) := by decide +kernel
theorem d_X12_circles_48 : decode prog_14_method_47_code 48 = .ok (.if_icmp .ne 7, 3) := by decide +kernel
theorem d_X12_circles_51 : decode prog_14_method_47_code 51 = .ok (.iconst 1, 1) := by decide +kernel
theorem d_X12_circles_52 : decode prog_14_method_47_code 52 = .ok (.goto 4, 3) := by decide +kernel
theorem d_X12_circles_55 : decode prog_14_method_47_code 55 = .ok (.iconst 0, 1) := by decide +kernel
theorem d_X12_circles_56 : decode prog_14_method_47_code 56 = .ok (.iadd, 1) := by decide +kernel
theorem d_X12_circles_57 : decode prog_14_method_47_code 57 = .ok (.istore_n 1, 1) := by decide +kernel
theorem d_X12_circles_58 : decode prog_14_method_47_code 58 = .ok (.iinc 2 1, 3) := by decide +kernel
theorem d_X12_circles_61 : decode prog_14_method_47_code 61 = .ok (.goto (-57), 3) := by decide +kernel
theorem d_X12_circles_64 : decode prog_14_method_47_code 64 = .ok (.iload_n 1, 1) := by decide +kernel
theorem d_X12_circles_65 : decode prog_14_method_47_code 65 = .ok (.ireturn, 1) := by decide +kernel
theorem d_X12_count_0 : decode prog_14_method_48_code 0 = .ok (.iload_n 1, 1) := by decide +kernel
theorem d_X12_count_1 : decode prog_14_method_48_code 1 = .ok (.tableswitch 134 0 12 #[67, 72, 77, 82, 87, 92, 98, 104, 109, 114, 119, 124, 129], 67) := by decide +kernel
theorem d_X12_count_68 : decode prog_14_method_48_code 68 = .ok (.aload_n 0, 1) := by decide +kernel
theorem d_X12_count_69 : decode prog_14_method_48_code 69 = .ok (.getfield 354, 3) := by decide +kernel
theorem d_X12_count_72 : decode prog_14_method_48_code 72 = .ok (.ireturn, 1) := by decide +kernel
theorem d_X12_count_73 : decode prog_14_method_48_code 73 = .ok (.aload_n 0, 1) := by decide +kernel
theorem d_X12_count_74 : decode prog_14_method_48_code 74 = .ok (.getfield 357, 3) := by decide +kernel
theorem d_X12_count_77 : decode prog_14_method_48_code 77 = .ok (.ireturn, 1) := by decide +kernel
theorem d_X12_count_78 : decode prog_14_method_48_code 78 = .ok (.aload_n 0, 1) := by decide +kernel
theorem d_X12_count_79 : decode prog_14_method_48_code 79 = .ok (.invokevirtual 388, 3) := by decide +kernel
theorem d_X12_count_82 : decode prog_14_method_48_code 82 = .ok (.ireturn, 1) := by decide +kernel
theorem d_X12_count_83 : decode prog_14_method_48_code 83 = .ok (.aload_n 0, 1) := by decide +kernel
theorem d_X12_count_84 : decode prog_14_method_48_code 84 = .ok (.getfield 182, 3) := by decide +kernel
theorem d_X12_count_87 : decode prog_14_method_48_code 87 = .ok (.ireturn, 1) := by decide +kernel
theorem d_X12_count_88 : decode prog_14_method_48_code 88 = .ok (.aload_n 0, 1) := by decide +kernel
theorem d_X12_count_89 : decode prog_14_method_48_code 89 = .ok (.getfield 185, 3) := by decide +kernel
theorem d_X12_count_92 : decode prog_14_method_48_code 92 = .ok (.ireturn, 1) := by decide +kernel
theorem d_X12_count_93 : decode prog_14_method_48_code 93 = .ok (.aload_n 0, 1) := by decide +kernel
theorem d_X12_count_94 : decode prog_14_method_48_code 94 = .ok (.iconst 1, 1) := by decide +kernel
theorem d_X12_count_95 : decode prog_14_method_48_code 95 = .ok (.invokevirtual 391, 3) := by decide +kernel
theorem d_X12_count_98 : decode prog_14_method_48_code 98 = .ok (.ireturn, 1) := by decide +kernel
theorem d_X12_count_99 : decode prog_14_method_48_code 99 = .ok (.aload_n 0, 1) := by decide +kernel
theorem d_X12_count_100 : decode prog_14_method_48_code 100 = .ok (.iconst 0, 1) := by decide +kernel
theorem d_X12_count_101 : decode prog_14_method_48_code 101 = .ok (.invokevirtual 391, 3) := by decide +kernel
theorem d_X12_count_104 : decode prog_14_method_48_code 104 = .ok (.ireturn, 1) := by decide +kernel
theorem d_X12_count_105 : decode prog_14_method_48_code 105 = .ok (.aload_n 0, 1) := by decide +kernel
theorem d_X12_count_106 : decode prog_14_method_48_code 106 = .ok (.invokevirtual 395, 3) := by decide +kernel
theorem d_X12_count_109 : decode prog_14_method_48_code 109 = .ok (.ireturn, 1) := by decide +kernel
theorem d_X12_count_110 : decode prog_14_method_48_code 110 = .ok (.aload_n 0, 1) := by decide +kernel
theorem d_X12_count_111 : decode prog_14_method_48_code 111 = .ok (.getfield 360, 3) := by decide +kernel
theorem d_X12_count_114 : decode prog_14_method_48_code 114 = .ok (.ireturn, 1) := by decide +kernel
theorem d_X12_count_115 : decode prog_14_method_48_code 115 = .ok (.aload_n 0, 1) := by decide +kernel
theorem d_X12_count_116 : decode prog_14_method_48_code 116 = .ok (.getfield 363, 3) := by decide +kernel
theorem d_X12_count_119 : decode prog_14_method_48_code 119 = .ok (.ireturn, 1) := by decide +kernel
theorem d_X12_count_120 : decode prog_14_method_48_code 120 = .ok (.aload_n 0, 1) := by decide +kernel
theorem d_X12_count_121 : decode prog_14_method_48_code 121 = .ok (.getfield 366, 3) := by decide +kernel
theorem d_X12_count_124 : decode prog_14_method_48_code 124 = .ok (.ireturn, 1) := by decide +kernel
theorem d_X12_count_125 : decode prog_14_method_48_code 125 = .ok (.aload_n 0, 1) := by decide +kernel
theorem d_X12_count_126 : decode prog_14_method_48_code 126 = .ok (.getfield 398, 3) := by decide +kernel
theorem d_X12_count_129 : decode prog_14_method_48_code 129 = .ok (.ireturn, 1) := by decide +kernel
theorem d_X12_count_130 : decode prog_14_method_48_code 130 = .ok (.aload_n 0, 1) := by decide +kernel
theorem d_X12_count_131 : decode prog_14_method_48_code 131 = .ok (.getfield 401, 3) := by decide +kernel
theorem d_X12_count_134 : decode prog_14_method_48_code 134 = .ok (.ireturn, 1) := by decide +kernel
theorem d_X12_count_135 : decode prog_14_method_48_code 135 = .ok (.sipush (-1002), 3) := by decide +kernel
theorem d_X12_count_138 : decode prog_14_method_48_code 138 = .ok (.ireturn, 1) := by decide +kernel
theorem d_X12_cut_0 : decode prog_14_method_6_code 0 = .ok (.iload_n 1, 1) := by decide +kernel
theorem d_X12_cut_1 : decode prog_14_method_6_code 1 = .ok (.i2l, 1) := by decide +kernel
theorem d_X12_cut_2 : decode prog_14_method_6_code 2 = .ok (.lconst 0, 1) := by decide +kernel
theorem d_X12_cut_3 : decode prog_14_method_6_code 3 = .ok (.aload_n 0, 1) := by decide +kernel
theorem d_X12_cut_4 : decode prog_14_method_6_code 4 = .ok (.getfield 188, 3) := by decide +kernel
theorem d_X12_cut_7 : decode prog_14_method_6_code 7 = .ok (.i2l, 1) := by decide +kernel
theorem d_X12_cut_8 : decode prog_14_method_6_code 8 = .ok (.invokestatic 191, 3) := by decide +kernel
theorem d_X12_cut_11 : decode prog_14_method_6_code 11 = .ok (.ifCond .ne 7, 3) := by decide +kernel
theorem d_X12_cut_14 : decode prog_14_method_6_code 14 = .ok (.sipush (-1002), 3) := by decide +kernel
theorem d_X12_cut_17 : decode prog_14_method_6_code 17 = .ok (.ireturn, 1) := by decide +kernel
theorem d_X12_cut_18 : decode prog_14_method_6_code 18 = .ok (.aload_n 0, 1) := by decide +kernel
theorem d_X12_cut_19 : decode prog_14_method_6_code 19 = .ok (.getfield 188, 3) := by decide +kernel
theorem d_X12_cut_22 : decode prog_14_method_6_code 22 = .ok (.iload_n 1, 1) := by decide +kernel
theorem d_X12_cut_23 : decode prog_14_method_6_code 23 = .ok (.isub, 1) := by decide +kernel
theorem d_X12_cut_24 : decode prog_14_method_6_code 24 = .ok (.istore_n 2, 1) := by decide +kernel
theorem d_X12_cut_25 : decode prog_14_method_6_code 25 = .ok (.aload_n 0, 1) := by decide +kernel
theorem d_X12_cut_26 : decode prog_14_method_6_code 26 = .ok (.iload_n 1, 1) := by decide +kernel
theorem d_X12_cut_27 : decode prog_14_method_6_code 27 = .ok (.putfield 188, 3) := by decide +kernel
theorem d_X12_cut_30 : decode prog_14_method_6_code 30 = .ok (.iload_n 2, 1) := by decide +kernel
theorem d_X12_cut_31 : decode prog_14_method_6_code 31 = .ok (.ireturn, 1) := by decide +kernel
theorem d_X12_findOuter_0 : decode prog_14_method_61_code 0 = .ok (.iconst 0, 1) := by decide +kernel
theorem d_X12_findOuter_1 : decode prog_14_method_61_code 1 = .ok (.istore_n 3, 1) := by decide +kernel
theorem d_X12_findOuter_2 : decode prog_14_method_61_code 2 = .ok (.iload_n 3, 1) := by decide +kernel
theorem d_X12_findOuter_3 : decode prog_14_method_61_code 3 = .ok (.bipush 10, 2) := by decide +kernel
theorem d_X12_findOuter_5 : decode prog_14_method_61_code 5 = .ok (.if_icmp .ge 140, 3) := by decide +kernel
theorem d_X12_findOuter_8 : decode prog_14_method_61_code 8 = .ok (.iload_n 3, 1) := by decide +kernel
theorem d_X12_findOuter_9 : decode prog_14_method_61_code 9 = .ok (.iconst 5, 1) := by decide +kernel
theorem d_X12_findOuter_10 : decode prog_14_method_61_code 10 = .ok (.if_icmp .ge 7, 3) := by decide +kernel
theorem d_X12_findOuter_13 : decode prog_14_method_61_code 13 = .ok (.iload_n 1, 1) := by decide +kernel
theorem d_X12_findOuter_14 : decode prog_14_method_61_code 14 = .ok (.goto 4, 3) := by decide +kernel
theorem d_X12_findOuter_17 : decode prog_14_method_61_code 17 = .ok (.iload_n 2, 1) := by decide +kernel
theorem d_X12_findOuter_18 : decode prog_14_method_61_code 18 = .ok (.istore 4, 2) := by decide +kernel
theorem d_X12_findOuter_20 : decode prog_14_method_61_code 20 = .ok (.aload_n 0, 1) := by decide +kernel
theorem d_X12_findOuter_21 : decode prog_14_method_61_code 21 = .ok (.getfield 140, 3) := by decide +kernel
theorem d_X12_findOuter_24 : decode prog_14_method_61_code 24 = .ok (.iload_n 3, 1) := by decide +kernel
theorem d_X12_findOuter_25 : decode prog_14_method_61_code 25 = .ok (.iconst 0, 1) := by decide +kernel
theorem d_X12_findOuter_26 : decode prog_14_method_61_code 26 = .ok (.bastore, 1) := by decide +kernel
theorem d_X12_findOuter_27 : decode prog_14_method_61_code 27 = .ok (.aload_n 0, 1) := by decide +kernel
theorem d_X12_findOuter_28 : decode prog_14_method_61_code 28 = .ok (.getfield 137, 3) := by decide +kernel
theorem d_X12_findOuter_31 : decode prog_14_method_61_code 31 = .ok (.iload_n 3, 1) := by decide +kernel
theorem d_X12_findOuter_32 : decode prog_14_method_61_code 32 = .ok (.iconst 0, 1) := by decide +kernel
theorem d_X12_findOuter_33 : decode prog_14_method_61_code 33 = .ok (.iastore, 1) := by decide +kernel
theorem d_X12_findOuter_34 : decode prog_14_method_61_code 34 = .ok (.iload_n 3, 1) := by decide +kernel
theorem d_X12_findOuter_35 : decode prog_14_method_61_code 35 = .ok (.iconst 5, 1) := by decide +kernel
theorem d_X12_findOuter_36 : decode prog_14_method_61_code 36 = .ok (.irem, 1) := by decide +kernel
theorem d_X12_findOuter_37 : decode prog_14_method_61_code 37 = .ok (.ifCond .le 102, 3) := by decide +kernel
theorem d_X12_findOuter_40 : decode prog_14_method_61_code 40 = .ok (.iload_n 3, 1) := by decide +kernel
theorem d_X12_findOuter_41 : decode prog_14_method_61_code 41 = .ok (.iconst 5, 1) := by decide +kernel
theorem d_X12_findOuter_42 : decode prog_14_method_61_code 42 = .ok (.irem, 1) := by decide +kernel
theorem d_X12_findOuter_43 : decode prog_14_method_61_code 43 = .ok (.aload_n 0, 1) := by decide +kernel
theorem d_X12_findOuter_44 : decode prog_14_method_61_code 44 = .ok (.getfield 21, 3) := by decide +kernel
theorem d_X12_findOuter_47 : decode prog_14_method_61_code 47 = .ok (.aload_n 0, 1) := by decide +kernel
theorem d_X12_findOuter_48 : decode prog_14_method_61_code 48 = .ok (.getfield 49, 3) := by decide +kernel
theorem d_X12_findOuter_51 : decode prog_14_method_61_code 51 = .ok (.iload 4, 2) := by decide +kernel
theorem d_X12_findOuter_53 : decode prog_14_method_61_code 53 = .ok (.iaload, 1) := by decide +kernel
theorem d_X12_findOuter_54 : decode prog_14_method_61_code 54 = .ok (.iaload, 1) := by decide +kernel
theorem d_X12_findOuter_55 : decode prog_14_method_61_code 55 = .ok (.if_icmp .ge 84, 3) := by decide +kernel
theorem d_X12_findOuter_58 : decode prog_14_method_61_code 58 = .ok (.aload_n 0, 1) := by decide +kernel
theorem d_X12_findOuter_59 : decode prog_14_method_61_code 59 = .ok (.getfield 52, 3) := by decide +kernel
theorem d_X12_findOuter_62 : decode prog_14_method_61_code 62 = .ok (.iconst 5, 1) := by decide +kernel
theorem d_X12_findOuter_63 : decode prog_14_method_61_code 63 = .ok (.iload 4, 2) := by decide +kernel
theorem d_X12_findOuter_65 : decode prog_14_method_61_code 65 = .ok (.imul, 1) := by decide +kernel
theorem d_X12_findOuter_66 : decode prog_14_method_61_code 66 = .ok (.iload_n 3, 1) := by decide +kernel
theorem d_X12_findOuter_67 : decode prog_14_method_61_code 67 = .ok (.iconst 5, 1) := by decide +kernel
theorem d_X12_findOuter_68 : decode prog_14_method_61_code 68 = .ok (.irem, 1) := by decide +kernel
theorem d_X12_findOuter_69 : decode prog_14_method_61_code 69 = .ok (.iadd, 1) := by decide +kernel
theorem d_X12_findOuter_70 : decode prog_14_method_61_code 70 = .ok (.iaload, 1) := by decide +kernel
theorem d_X12_findOuter_71 : decode prog_14_method_61_code 71 = .ok (.istore 5, 2) := by decide +kernel
theorem d_X12_findOuter_73 : decode prog_14_method_61_code 73 = .ok (.iload 5, 2) := by decide +kernel
theorem d_X12_findOuter_75 : decode prog_14_method_61_code 75 = .ok (.ifCond .lt 23, 3) := by decide +kernel
theorem d_X12_findOuter_78 : decode prog_14_method_61_code 78 = .ok (.iload 5, 2) := by decide +kernel
theorem d_X12_findOuter_80 : decode prog_14_method_61_code 80 = .ok (.iconst 5, 1) := by decide +kernel
theorem d_X12_findOuter_81 : decode prog_14_method_61_code 81 = .ok (.idiv, 1) := by decide +kernel
theorem d_X12_findOuter_82 : decode prog_14_method_61_code 82 = .ok (.iload_n 1, 1) := by decide +kernel
theorem d_X12_findOuter_83 : decode prog_14_method_61_code 83 = .ok (.if_icmp .eq 11, 3) := by decide +kernel
theorem d_X12_findOuter_86 : decode prog_14_method_61_code 86 = .ok (.iload 5, 2) := by decide +kernel
theorem d_X12_findOuter_88 : decode prog_14_method_61_code 88 = .ok (.iconst 5, 1) := by decide +kernel
theorem d_X12_findOuter_89 : decode prog_14_method_61_code 89 = .ok (.idiv, 1) := by decide +kernel
theorem d_X12_findOuter_90 : decode prog_14_method_61_code 90 = .ok (.iload_n 2, 1) := by decide +kernel
theorem d_X12_findOuter_91 : decode prog_14_method_61_code 91 = .ok (.if_icmp .ne 7, 3) := by decide +kernel
theorem d_X12_findOuter_94 : decode prog_14_method_61_code 94 = .ok (.iconst 1, 1) := by decide +kernel
theorem d_X12_findOuter_95 : decode prog_14_method_61_code 95 = .ok (.goto 4, 3) := by decide +kernel
theorem d_X12_findOuter_98 : decode prog_14_method_61_code 98 = .ok (.iconst 0, 1) := by decide +kernel
theorem d_X12_findOuter_99 : decode prog_14_method_61_code 99 = .ok (.istore 6, 2) := by decide +kernel
theorem d_X12_findOuter_101 : decode prog_14_method_61_code 101 = .ok (.aload_n 0, 1) := by decide +kernel
theorem d_X12_findOuter_102 : decode prog_14_method_61_code 102 = .ok (.getfield 137, 3) := by decide +kernel
theorem d_X12_findOuter_105 : decode prog_14_method_61_code 105 = .ok (.iload_n 3, 1) := by decide +kernel
theorem d_X12_findOuter_106 : decode prog_14_method_61_code 106 = .ok (.iload 6, 2) := by decide +kernel
theorem d_X12_findOuter_108 : decode prog_14_method_61_code 108 = .ok (.ifCond .ne 8, 3) := by decide +kernel
theorem d_X12_findOuter_111 : decode prog_14_method_61_code 111 = .ok (.iload 5, 2) := by decide +kernel
theorem d_X12_findOuter_113 : decode prog_14_method_61_code 113 = .ok (.goto 25, 3) := by decide +kernel
theorem d_X12_findOuter_116 : decode prog_14_method_61_code 116 = .ok (.sipush 10000, 3) := by decide +kernel
theorem d_X12_findOuter_119 : decode prog_14_method_61_code 119 = .ok (.iload 5, 2) := by decide +kernel
theorem d_X12_findOuter_121 : decode prog_14_method_61_code 121 = .ok (.iconst 5, 1) := by decide +kernel
theorem d_X12_findOuter_122 : decode prog_14_method_61_code 122 = .ok (.idiv, 1) := by decide +kernel
theorem d_X12_findOuter_123 : decode prog_14_method_61_code 123 = .ok (.iload_n 1, 1) := by decide +kernel
theorem d_X12_findOuter_124 : decode prog_14_method_61_code 124 = .ok (.if_icmp .ne 7, 3) := by decide +kernel
theorem d_X12_findOuter_127 : decode prog_14_method_61_code 127 = .ok (.iconst 0, 1) := by decide +kernel
theorem d_X12_findOuter_128 : decode prog_14_method_61_code 128 = .ok (.goto 4, 3) := by decide +kernel
theorem d_X12_findOuter_131 : decode prog_14_method_61_code 131 = .ok (.iconst 5, 1) := by decide +kernel
theorem d_X12_findOuter_132 : decode prog_14_method_61_code 132 = .ok (.iadd, 1) := by decide +kernel
theorem d_X12_findOuter_133 : decode prog_14_method_61_code 133 = .ok (.iload 5, 2) := by decide +kernel
theorem d_X12_findOuter_135 : decode prog_14_method_61_code 135 = .ok (.iconst 5, 1) := by decide +kernel
theorem d_X12_findOuter_136 : decode prog_14_method_61_code 136 = .ok (.irem, 1) := by decide +kernel
theorem d_X12_findOuter_137 : decode prog_14_method_61_code 137 = .ok (.iadd, 1) := by decide +kernel
theorem d_X12_findOuter_138 : decode prog_14_method_61_code 138 = .ok (.iastore, 1) := by decide +kernel
theorem d_X12_findOuter_139 : decode prog_14_method_61_code 139 = .ok (.iinc 3 1, 3) := by decide +kernel
theorem d_X12_findOuter_142 : decode prog_14_method_61_code 142 = .ok (.goto (-140), 3) := by decide +kernel
theorem d_X12_findOuter_145 : decode prog_14_method_61_code 145 = .ok (.return_, 1) := by decide +kernel
theorem d_X12_fresh_0 : decode prog_14_method_57_code 0 = .ok (.iconst 5, 1) := by decide +kernel
theorem d_X12_fresh_1 : decode prog_14_method_57_code 1 = .ok (.aload_n 0, 1) := by decide +kernel
theorem d_X12_fresh_2 : decode prog_14_method_57_code 2 = .ok (.getfield 143, 3) := by decide +kernel
theorem d_X12_fresh_5 : decode prog_14_method_57_code 5 = .ok (.iload_n 1, 1) := by decide +kernel
theorem d_X12_fresh_6 : decode prog_14_method_57_code 6 = .ok (.iconst 5, 1) := by decide +kernel
theorem d_X12_fresh_7 : decode prog_14_method_57_code 7 = .ok (.idiv, 1) := by decide +kernel
theorem d_X12_fresh_8 : decode prog_14_method_57_code 8 = .ok (.iaload, 1) := by decide +kernel
theorem d_X12_fresh_9 : decode prog_14_method_57_code 9 = .ok (.imul, 1) := by decide +kernel
theorem d_X12_fresh_10 : decode prog_14_method_57_code 10 = .ok (.iload_n 1, 1) := by decide +kernel
theorem d_X12_fresh_11 : decode prog_14_method_57_code 11 = .ok (.iconst 5, 1) := by decide +kernel
theorem d_X12_fresh_12 : decode prog_14_method_57_code 12 = .ok (.irem, 1) := by decide +kernel
theorem d_X12_fresh_13 : decode prog_14_method_57_code 13 = .ok (.iadd, 1) := by decide +kernel
theorem d_X12_fresh_14 : decode prog_14_method_57_code 14 = .ok (.ireturn, 1) := by decide +kernel
theorem d_X12_goRound_0 : decode prog_14_method_60_code 0 = .ok (.iload_n 2, 1) := by decide +kernel
theorem d_X12_goRound_1 : decode prog_14_method_60_code 1 = .ok (.istore_n 3, 1) := by decide +kernel
theorem d_X12_goRound_2 : decode prog_14_method_60_code 2 = .ok (.aload_n 0, 1) := by decide +kernel
theorem d_X12_goRound_3 : decode prog_14_method_60_code 3 = .ok (.getfield 140, 3) := by decide +kernel
theorem d_X12_goRound_6 : decode prog_14_method_60_code 6 = .ok (.iload_n 3, 1) := by decide +kernel
theorem d_X12_goRound_7 : decode prog_14_method_60_code 7 = .ok (.baload, 1) := by decide +kernel
theorem d_X12_goRound_8 : decode prog_14_method_60_code 8 = .ok (.ifCond .ne 65, 3) := by decide +kernel
theorem d_X12_goRound_11 : decode prog_14_method_60_code 11 = .ok (.aload_n 0, 1) := by decide +kernel
theorem d_X12_goRound_12 : decode prog_14_method_60_code 12 = .ok (.getfield 140, 3) := by decide +kernel
theorem d_X12_goRound_15 : decode prog_14_method_60_code 15 = .ok (.iload_n 3, 1) := by decide +kernel
theorem d_X12_goRound_16 : decode prog_14_method_60_code 16 = .ok (.iconst 1, 1) := by decide +kernel
theorem d_X12_goRound_17 : decode prog_14_method_60_code 17 = .ok (.bastore, 1) := by decide +kernel
theorem d_X12_goRound_18 : decode prog_14_method_60_code 18 = .ok (.aload_n 0, 1) := by decide +kernel
theorem d_X12_goRound_19 : decode prog_14_method_60_code 19 = .ok (.getfield 137, 3) := by decide +kernel
theorem d_X12_goRound_22 : decode prog_14_method_60_code 22 = .ok (.iload_n 3, 1) := by decide +kernel
theorem d_X12_goRound_23 : decode prog_14_method_60_code 23 = .ok (.iaload, 1) := by decide +kernel
theorem d_X12_goRound_24 : decode prog_14_method_60_code 24 = .ok (.sipush 10000, 3) := by decide +kernel
theorem d_X12_goRound_27 : decode prog_14_method_60_code 27 = .ok (.isub, 1) := by decide +kernel
theorem d_X12_goRound_28 : decode prog_14_method_60_code 28 = .ok (.istore 4, 2) := by decide +kernel
theorem d_X12_goRound_30 : decode prog_14_method_60_code 30 = .ok (.aload_n 0, 1) := by decide +kernel
theorem d_X12_goRound_31 : decode prog_14_method_60_code 31 = .ok (.getfield 140, 3) := by decide +kernel
theorem d_X12_goRound_34 : decode prog_14_method_60_code 34 = .ok (.iload 4, 2) := by decide +kernel
theorem d_X12_goRound_36 : decode prog_14_method_60_code 36 = .ok (.iconst 1, 1) := by decide +kernel
theorem d_X12_goRound_37 : decode prog_14_method_60_code 37 = .ok (.bastore, 1) := by decide +kernel
theorem d_X12_goRound_38 : decode prog_14_method_60_code 38 = .ok (.aload_n 0, 1) := by decide +kernel
theorem d_X12_goRound_39 : decode prog_14_method_60_code 39 = .ok (.getfield 43, 3) := by decide +kernel
theorem d_X12_goRound_42 : decode prog_14_method_60_code 42 = .ok (.bipush 70, 2) := by decide +kernel
theorem d_X12_goRound_44 : decode prog_14_method_60_code 44 = .ok (.iload_n 1, 1) := by decide +kernel
theorem d_X12_goRound_45 : decode prog_14_method_60_code 45 = .ok (.imul, 1) := by decide +kernel
theorem d_X12_goRound_46 : decode prog_14_method_60_code 46 = .ok (.bipush 60, 2) := by decide +kernel
theorem d_X12_goRound_48 : decode prog_14_method_60_code 48 = .ok (.iadd, 1) := by decide +kernel
theorem d_X12_goRound_49 : decode prog_14_method_60_code 49 = .ok (.iload 4, 2) := by decide +kernel
theorem d_X12_goRound_51 : decode prog_14_method_60_code 51 = .ok (.iadd, 1) := by decide +kernel
theorem d_X12_goRound_52 : decode prog_14_method_60_code 52 = .ok (.iaload, 1) := by decide +kernel
theorem d_X12_goRound_53 : decode prog_14_method_60_code 53 = .ok (.istore 5, 2) := by decide +kernel
theorem d_X12_goRound_55 : decode prog_14_method_60_code 55 = .ok (.iload 5, 2) := by decide +kernel
theorem d_X12_goRound_57 : decode prog_14_method_60_code 57 = .ok (.bipush 60, 2) := by decide +kernel
theorem d_X12_goRound_59 : decode prog_14_method_60_code 59 = .ok (.if_icmp .ge 5, 3) := by decide +kernel
theorem d_X12_goRound_62 : decode prog_14_method_60_code 62 = .ok (.iconst 0, 1) := by decide +kernel
theorem d_X12_goRound_63 : decode prog_14_method_60_code 63 = .ok (.ireturn, 1) := by decide +kernel
theorem d_X12_goRound_64 : decode prog_14_method_60_code 64 = .ok (.iload 5, 2) := by decide +kernel
theorem d_X12_goRound_66 : decode prog_14_method_60_code 66 = .ok (.bipush 60, 2) := by decide +kernel
theorem d_X12_goRound_68 : decode prog_14_method_60_code 68 = .ok (.isub, 1) := by decide +kernel
theorem d_X12_goRound_69 : decode prog_14_method_60_code 69 = .ok (.istore_n 3, 1) := by decide +kernel
theorem d_X12_goRound_70 : decode prog_14_method_60_code 70 = .ok (.goto (-68), 3) := by decide +kernel
theorem d_X12_goRound_73 : decode prog_14_method_60_code 73 = .ok (.iconst 1, 1) := by decide +kernel
theorem d_X12_goRound_74 : decode prog_14_method_60_code 74 = .ok (.ireturn, 1) := by decide +kernel
theorem d_X12_outward_0 : decode prog_14_method_58_code 0 = .ok (.iload_n 2, 1) := by decide +kernel
theorem d_X12_outward_1 : decode prog_14_method_58_code 1 = .ok (.istore_n 3, 1) := by decide +kernel
theorem d_X12_outward_2 : decode prog_14_method_58_code 2 = .ok (.aload_n 0, 1) := by decide +kernel
theorem d_X12_outward_3 : decode prog_14_method_58_code 3 = .ok (.getfield 140, 3) := by decide +kernel
theorem d_X12_outward_6 : decode prog_14_method_58_code 6 = .ok (.iload_n 3, 1) := by decide +kernel
theorem d_X12_outward_7 : decode prog_14_method_58_code 7 = .ok (.iconst 1, 1) := by decide +kernel
theorem d_X12_outward_8 : decode prog_14_method_58_code 8 = .ok (.bastore, 1) := by decide +kernel
theorem d_X12_outward_9 : decode prog_14_method_58_code 9 = .ok (.aload_n 0, 1) := by decide +kernel
theorem d_X12_outward_10 : decode prog_14_method_58_code 10 = .ok (.getfield 137, 3) := by decide +kernel
theorem d_X12_outward_13 : decode prog_14_method_58_code 13 = .ok (.iload_n 3, 1) := by decide +kernel
theorem d_X12_outward_14 : decode prog_14_method_58_code 14 = .ok (.iaload, 1) := by decide +kernel
theorem d_X12_outward_15 : decode prog_14_method_58_code 15 = .ok (.sipush 10000, 3) := by decide +kernel
theorem d_X12_outward_18 : decode prog_14_method_58_code 18 = .ok (.if_icmp .ge 10, 3) := by decide +kernel
theorem d_X12_outward_21 : decode prog_14_method_58_code 21 = .ok (.aload_n 0, 1) := by decide +kernel
theorem d_X12_outward_22 : decode prog_14_method_58_code 22 = .ok (.getfield 137, 3) := by decide +kernel
theorem d_X12_outward_25 : decode prog_14_method_58_code 25 = .ok (.iload_n 3, 1) := by decide +kernel
theorem d_X12_outward_26 : decode prog_14_method_58_code 26 = .ok (.iaload, 1) := by decide +kernel
theorem d_X12_outward_27 : decode prog_14_method_58_code 27 = .ok (.ireturn, 1) := by decide +kernel
theorem d_X12_outward_28 : decode prog_14_method_58_code 28 = .ok (.aload_n 0, 1) := by decide +kernel
theorem d_X12_outward_29 : decode prog_14_method_58_code 29 = .ok (.getfield 137, 3) := by decide +kernel
theorem d_X12_outward_32 : decode prog_14_method_58_code 32 = .ok (.iload_n 3, 1) := by decide +kernel
theorem d_X12_outward_33 : decode prog_14_method_58_code 33 = .ok (.iaload, 1) := by decide +kernel
theorem d_X12_outward_34 : decode prog_14_method_58_code 34 = .ok (.sipush 10000, 3) := by decide +kernel
theorem d_X12_outward_37 : decode prog_14_method_58_code 37 = .ok (.isub, 1) := by decide +kernel
theorem d_X12_outward_38 : decode prog_14_method_58_code 38 = .ok (.istore_n 3, 1) := by decide +kernel
theorem d_X12_outward_39 : decode prog_14_method_58_code 39 = .ok (.aload_n 0, 1) := by decide +kernel
theorem d_X12_outward_40 : decode prog_14_method_58_code 40 = .ok (.getfield 140, 3) := by decide +kernel
theorem d_X12_outward_43 : decode prog_14_method_58_code 43 = .ok (.iload_n 3, 1) := by decide +kernel
theorem d_X12_outward_44 : decode prog_14_method_58_code 44 = .ok (.iconst 1, 1) := by decide +kernel
theorem d_X12_outward_45 : decode prog_14_method_58_code 45 = .ok (.bastore, 1) := by decide +kernel
theorem d_X12_outward_46 : decode prog_14_method_58_code 46 = .ok (.aload_n 0, 1) := by decide +kernel
theorem d_X12_outward_47 : decode prog_14_method_58_code 47 = .ok (.getfield 43, 3) := by decide +kernel
theorem d_X12_outward_50 : decode prog_14_method_58_code 50 = .ok (.bipush 70, 2) := by decide +kernel
theorem d_X12_outward_52 : decode prog_14_method_58_code 52 = .ok (.iload_n 1, 1) := by decide +kernel
theorem d_X12_outward_53 : decode prog_14_method_58_code 53 = .ok (.imul, 1) := by decide +kernel
theorem d_X12_outward_54 : decode prog_14_method_58_code 54 = .ok (.bipush 60, 2) := by decide +kernel
theorem d_X12_outward_56 : decode prog_14_method_58_code 56 = .ok (.iadd, 1) := by decide +kernel
theorem d_X12_outward_57 : decode prog_14_method_58_code 57 = .ok (.iload_n 3, 1) := by decide +kernel
theorem d_X12_outward_58 : decode prog_14_method_58_code 58 = .ok (.iadd, 1) := by decide +kernel
theorem d_X12_outward_59 : decode prog_14_method_58_code 59 = .ok (.iaload, 1) := by decide +kernel
theorem d_X12_outward_60 : decode prog_14_method_58_code 60 = .ok (.istore 4, 2) := by decide +kernel
theorem d_X12_outward_62 : decode prog_14_method_58_code 62 = .ok (.iload 4, 2) := by decide +kernel
theorem d_X12_outward_64 : decode prog_14_method_58_code 64 = .ok (.bipush 60, 2) := by decide +kernel
theorem d_X12_outward_66 : decode prog_14_method_58_code 66 = .ok (.if_icmp .ge 10, 3) := by decide +kernel
theorem d_X12_outward_69 : decode prog_14_method_58_code 69 = .ok (.aload_n 0, 1) := by decide +kernel
theorem d_X12_outward_70 : decode prog_14_method_58_code 70 = .ok (.iload 4, 2) := by decide +kernel
theorem d_X12_outward_72 : decode prog_14_method_58_code 72 = .ok (.invokevirtual 412, 3) := by decide +kernel
theorem d_X12_outward_75 : decode prog_14_method_58_code 75 = .ok (.ireturn, 1) := by decide +kernel
theorem d_X12_outward_76 : decode prog_14_method_58_code 76 = .ok (.iload 4, 2) := by decide +kernel
theorem d_X12_outward_78 : decode prog_14_method_58_code 78 = .ok (.bipush 60, 2) := by decide +kernel
theorem d_X12_outward_80 : decode prog_14_method_58_code 80 = .ok (.isub, 1) := by decide +kernel
theorem d_X12_outward_81 : decode prog_14_method_58_code 81 = .ok (.istore_n 3, 1) := by decide +kernel
theorem d_X12_outward_82 : decode prog_14_method_58_code 82 = .ok (.goto (-80), 3) := by decide +kernel
theorem d_X12_wire_0 : decode prog_14_method_56_code 0 = .ok (.iload_n 1, 1) := by decide +kernel
theorem d_X12_wire_1 : decode prog_14_method_56_code 1 = .ok (.ifCond .ge 16, 3) := by decide +kernel
theorem d_X12_wire_4 : decode prog_14_method_56_code 4 = .ok (.aload_n 0, 1) := by decide +kernel
theorem d_X12_wire_5 : decode prog_14_method_56_code 5 = .ok (.getfield 55, 3) := by decide +kernel
theorem d_X12_wire_8 : decode prog_14_method_56_code 8 = .ok (.bipush (-2), 2) := by decide +kernel
theorem d_X12_wire_10 : decode prog_14_method_56_code 10 = .ok (.iload_n 1, 1) := by decide +kernel
theorem d_X12_wire_11 : decode prog_14_method_56_code 11 = .ok (.isub, 1) := by decide +kernel
theorem d_X12_wire_12 : decode prog_14_method_56_code 12 = .ok (.iload_n 2, 1) := by decide +kernel
theorem d_X12_wire_13 : decode prog_14_method_56_code 13 = .ok (.iastore, 1) := by decide +kernel
theorem d_X12_wire_14 : decode prog_14_method_56_code 14 = .ok (.goto 10, 3) := by decide +kernel
theorem d_X12_wire_17 : decode prog_14_method_56_code 17 = .ok (.aload_n 0, 1) := by decide +kernel
theorem d_X12_wire_18 : decode prog_14_method_56_code 18 = .ok (.getfield 52, 3) := by decide +kernel
theorem d_X12_wire_21 : decode prog_14_method_56_code 21 = .ok (.iload_n 1, 1) := by decide +kernel
theorem d_X12_wire_22 : decode prog_14_method_56_code 22 = .ok (.iload_n 2, 1) := by decide +kernel
theorem d_X12_wire_23 : decode prog_14_method_56_code 23 = .ok (.iastore, 1) := by decide +kernel
theorem d_X12_wire_24 : decode prog_14_method_56_code 24 = .ok (.return_, 1) := by decide +kernel
theorem d_X12_doStep_0 : decode prog_14_method_59_code 0 = .ok (.aload_n 0, 1) := by decide +kernel
theorem d_X12_doStep_1 : decode prog_14_method_59_code 1 = .ok (.iload_n 1, 1) := by decide +kernel
theorem d_X12_doStep_2 : decode prog_14_method_59_code 2 = .ok (.iload_n 2, 1) := by decide +kernel
theorem d_X12_doStep_3 : decode prog_14_method_59_code 3 = .ok (.invokevirtual 377, 3) := by decide +kernel
theorem d_X12_doStep_6 : decode prog_14_method_59_code 6 = .ok (.istore_n 3, 1) := by decide +kernel
theorem d_X12_doStep_7 : decode prog_14_method_59_code 7 = .ok (.aload_n 0, 1) := by decide +kernel
theorem d_X12_doStep_8 : decode prog_14_method_59_code 8 = .ok (.invokevirtual 388, 3) := by decide +kernel
theorem d_X12_doStep_11 : decode prog_14_method_59_code 11 = .ok (.iconst 2, 1) := by decide +kernel
theorem d_X12_doStep_12 : decode prog_14_method_59_code 12 = .ok (.isub, 1) := by decide +kernel
theorem d_X12_doStep_13 : decode prog_14_method_59_code 13 = .ok (.aload_n 0, 1) := by decide +kernel
theorem d_X12_doStep_14 : decode prog_14_method_59_code 14 = .ok (.getfield 37, 3) := by decide +kernel
theorem d_X12_doStep_17 : decode prog_14_method_59_code 17 = .ok (.iload_n 3, 1) := by decide +kernel
theorem d_X12_doStep_18 : decode prog_14_method_59_code 18 = .ok (.iaload, 1) := by decide +kernel
theorem d_X12_doStep_19 : decode prog_14_method_59_code 19 = .ok (.iadd, 1) := by decide +kernel
theorem d_X12_doStep_20 : decode prog_14_method_59_code 20 = .ok (.sipush 400, 3) := by decide +kernel
theorem d_X12_doStep_23 : decode prog_14_method_59_code 23 = .ok (.if_icmp .le 5, 3) := by decide +kernel
theorem d_X12_doStep_26 : decode prog_14_method_59_code 26 = .ok (.iconst 0, 1) := by decide +kernel
theorem d_X12_doStep_27 : decode prog_14_method_59_code 27 = .ok (.ireturn, 1) := by decide +kernel
theorem d_X12_doStep_28 : decode prog_14_method_59_code 28 = .ok (.iload_n 1, 1) := by decide +kernel
theorem d_X12_doStep_29 : decode prog_14_method_59_code 29 = .ok (.iload_n 2, 1) := by decide +kernel
theorem d_X12_doStep_30 : decode prog_14_method_59_code 30 = .ok (.if_icmp .ge 7, 3) := by decide +kernel
theorem d_X12_doStep_33 : decode prog_14_method_59_code 33 = .ok (.iload_n 1, 1) := by decide +kernel
theorem d_X12_doStep_34 : decode prog_14_method_59_code 34 = .ok (.goto 4, 3) := by decide +kernel
theorem d_X12_doStep_37 : decode prog_14_method_59_code 37 = .ok (.iload_n 2, 1) := by decide +kernel
theorem d_X12_doStep_38 : decode prog_14_method_59_code 38 = .ok (.istore 4, 2) := by decide +kernel
theorem d_X12_doStep_40 : decode prog_14_method_59_code 40 = .ok (.iload_n 1, 1) := by decide +kernel
theorem d_X12_doStep_41 : decode prog_14_method_59_code 41 = .ok (.iload_n 2, 1) := by decide +kernel
theorem d_X12_doStep_42 : decode prog_14_method_59_code 42 = .ok (.if_icmp .ge 7, 3) := by decide +kernel
theorem d_X12_doStep_45 : decode prog_14_method_59_code 45 = .ok (.iload_n 2, 1) := by decide +kernel
theorem d_X12_doStep_46 : decode prog_14_method_59_code 46 = .ok (.goto 4, 3) := by decide +kernel
theorem d_X12_doStep_49 : decode prog_14_method_59_code 49 = .ok (.iload_n 1, 1) := by decide +kernel
theorem d_X12_doStep_50 : decode prog_14_method_59_code 50 = .ok (.istore 5, 2) := by decide +kernel
theorem d_X12_doStep_52 : decode prog_14_method_59_code 52 = .ok (.aload_n 0, 1) := by decide +kernel
theorem d_X12_doStep_53 : decode prog_14_method_59_code 53 = .ok (.getfield 62, 3) := by decide +kernel
theorem d_X12_doStep_56 : decode prog_14_method_59_code 56 = .ok (.aload_n 0, 1) := by decide +kernel
theorem d_X12_doStep_57 : decode prog_14_method_59_code 57 = .ok (.getfield 369, 3) := by decide +kernel
theorem d_X12_doStep_60 : decode prog_14_method_59_code 60 = .ok (.bipush 50, 2) := by decide +kernel
theorem d_X12_doStep_62 : decode prog_14_method_59_code 62 = .ok (.irem, 1) := by decide +kernel
theorem d_X12_doStep_63 : decode prog_14_method_59_code 63 = .ok (.bipush 16, 2) := by decide +kernel
theorem d_X12_doStep_65 : decode prog_14_method_59_code 65 = .ok (.aload_n 0, 1) := by decide +kernel
theorem d_X12_doStep_66 : decode prog_14_method_59_code 66 = .ok (.getfield 49, 3) := by decide +kernel
theorem d_X12_doStep_69 : decode prog_14_method_59_code 69 = .ok (.iload 4, 2) := by decide +kernel
theorem d_X12_doStep_71 : decode prog_14_method_59_code 71 = .ok (.iaload, 1) := by decide +kernel
theorem d_X12_doStep_72 : decode prog_14_method_59_code 72 = .ok (.imul, 1) := by decide +kernel
theorem d_X12_doStep_73 : decode prog_14_method_59_code 73 = .ok (.aload_n 0, 1) := by decide +kernel
theorem d_X12_doStep_74 : decode prog_14_method_59_code 74 = .ok (.getfield 49, 3) := by decide +kernel
theorem d_X12_doStep_77 : decode prog_14_method_59_code 77 = .ok (.iload 5, 2) := by decide +kernel
theorem d_X12_doStep_79 : decode prog_14_method_59_code 79 = .ok (.iaload, 1) := by decide +kernel
theorem d_X12_doStep_80 : decode prog_14_method_59_code 80 = .ok (.iadd, 1) := by decide +kernel
theorem d_X12_doStep_81 : decode prog_14_method_59_code 81 = .ok (.iastore, 1) := by decide +kernel
theorem d_X12_doStep_82 : decode prog_14_method_59_code 82 = .ok (.aload_n 0, 1) := by decide +kernel
theorem d_X12_doStep_83 : decode prog_14_method_59_code 83 = .ok (.dup, 1) := by decide +kernel
theorem d_X12_doStep_84 : decode prog_14_method_59_code 84 = .ok (.getfield 369, 3) := by decide +kernel
theorem d_X12_doStep_87 : decode prog_14_method_59_code 87 = .ok (.iconst 1, 1) := by decide +kernel
theorem d_X12_doStep_88 : decode prog_14_method_59_code 88 = .ok (.iadd, 1) := by decide +kernel
theorem d_X12_doStep_89 : decode prog_14_method_59_code 89 = .ok (.putfield 369, 3) := by decide +kernel
theorem d_X12_doStep_92 : decode prog_14_method_59_code 92 = .ok (.aload_n 0, 1) := by decide +kernel
theorem d_X12_doStep_93 : decode prog_14_method_59_code 93 = .ok (.getfield 49, 3) := by decide +kernel
theorem d_X12_doStep_96 : decode prog_14_method_59_code 96 = .ok (.iload 4, 2) := by decide +kernel
theorem d_X12_doStep_98 : decode prog_14_method_59_code 98 = .ok (.iaload, 1) := by decide +kernel
theorem d_X12_doStep_99 : decode prog_14_method_59_code 99 = .ok (.aload_n 0, 1) := by decide +kernel
theorem d_X12_doStep_100 : decode prog_14_method_59_code 100 = .ok (.getfield 34, 3) := by decide +kernel
theorem d_X12_doStep_103 : decode prog_14_method_59_code 103 = .ok (.iconst 2, 1) := by decide +kernel
theorem d_X12_doStep_104 : decode prog_14_method_59_code 104 = .ok (.iload_n 3, 1) := by decide +kernel
theorem d_X12_doStep_105 : decode prog_14_method_59_code 105 = .ok (.imul, 1) := by decide +kernel
theorem d_X12_doStep_106 : decode prog_14_method_59_code 106 = .ok (.iaload, 1) := by decide +kernel
theorem d_X12_doStep_107 : decode prog_14_method_59_code 107 = .ok (.if_icmp .ne 8, 3) := by decide +kernel
theorem d_X12_doStep_110 : decode prog_14_method_59_code 110 = .ok (.iload 4, 2) := by decide +kernel
theorem d_X12_doStep_112 : decode prog_14_method_59_code 112 = .ok (.goto 5, 3) := by decide +kernel
theorem d_X12_doStep_115 : decode prog_14_method_59_code 115 = .ok (.iload 5, 2) := by decide +kernel
theorem d_X12_doStep_117 : decode prog_14_method_59_code 117 = .ok (.istore 6, 2) := by decide +kernel
theorem d_X12_doStep_119 : decode prog_14_method_59_code 119 = .ok (.iload 4, 2) := by decide +kernel
theorem d_X12_doStep_121 : decode prog_14_method_59_code 121 = .ok (.iload 5, 2) := by decide +kernel
theorem d_X12_doStep_123 : decode prog_14_method_59_code 123 = .ok (.iadd, 1) := by decide +kernel
theorem d_X12_doStep_124 : decode prog_14_method_59_code 124 = .ok (.iload 6, 2) := by decide +kernel
theorem d_X12_doStep_126 : decode prog_14_method_59_code 126 = .ok (.isub, 1) := by decide +kernel
theorem d_X12_doStep_127 : decode prog_14_method_59_code 127 = .ok (.istore 7, 2) := by decide +kernel
theorem d_X12_doStep_129 : decode prog_14_method_59_code 129 = .ok (.aload_n 0, 1) := by decide +kernel
theorem d_X12_doStep_130 : decode prog_14_method_59_code 130 = .ok (.iload 6, 2) := by decide +kernel
theorem d_X12_doStep_132 : decode prog_14_method_59_code 132 = .ok (.iload 7, 2) := by decide +kernel
theorem d_X12_doStep_134 : decode prog_14_method_59_code 134 = .ok (.invokevirtual 415, 3) := by decide +kernel
theorem d_X12_doStep_137 : decode prog_14_method_59_code 137 = .ok (.aload_n 0, 1) := by decide +kernel
theorem d_X12_doStep_138 : decode prog_14_method_59_code 138 = .ok (.getfield 21, 3) := by decide +kernel
theorem d_X12_doStep_141 : decode prog_14_method_59_code 141 = .ok (.aload_n 0, 1) := by decide +kernel
theorem d_X12_doStep_142 : decode prog_14_method_59_code 142 = .ok (.getfield 49, 3) := by decide +kernel
theorem d_X12_doStep_145 : decode prog_14_method_59_code 145 = .ok (.iload 6, 2) := by decide +kernel
theorem d_X12_doStep_147 : decode prog_14_method_59_code 147 = .ok (.iaload, 1) := by decide +kernel
theorem d_X12_doStep_148 : decode prog_14_method_59_code 148 = .ok (.iaload, 1) := by decide +kernel
theorem d_X12_doStep_149 : decode prog_14_method_59_code 149 = .ok (.istore 8, 2) := by decide +kernel
theorem d_X12_doStep_151 : decode prog_14_method_59_code 151 = .ok (.aload_n 0, 1) := by decide +kernel
theorem d_X12_doStep_152 : decode prog_14_method_59_code 152 = .ok (.getfield 21, 3) := by decide +kernel
theorem d_X12_doStep_155 : decode prog_14_method_59_code 155 = .ok (.aload_n 0, 1) := by decide +kernel
theorem d_X12_doStep_156 : decode prog_14_method_59_code 156 = .ok (.getfield 49, 3) := by decide +kernel
