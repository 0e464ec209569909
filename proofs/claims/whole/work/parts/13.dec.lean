theorem d_X8_add_55 : decode prog_10_method_6_code 55 = .ok (.iastore, 1) := by decide +kernel
theorem d_X8_add_56 : decode prog_10_method_6_code 56 = .ok (.aload_n 0, 1) := by decide +kernel
theorem d_X8_add_57 : decode prog_10_method_6_code 57 = .ok (.getfield 15, 3) := by decide +kernel
theorem d_X8_add_60 : decode prog_10_method_6_code 60 = .ok (.iload_n 3, 1) := by decide +kernel
theorem d_X8_add_61 : decode prog_10_method_6_code 61 = .ok (.iload_n 1, 1) := by decide +kernel
theorem d_X8_add_62 : decode prog_10_method_6_code 62 = .ok (.iastore, 1) := by decide +kernel
theorem d_X8_add_63 : decode prog_10_method_6_code 63 = .ok (.aload_n 0, 1) := by decide +kernel
theorem d_X8_add_64 : decode prog_10_method_6_code 64 = .ok (.getfield 18, 3) := by decide +kernel
theorem d_X8_add_67 : decode prog_10_method_6_code 67 = .ok (.iload_n 3, 1) := by decide +kernel
theorem d_X8_add_68 : decode prog_10_method_6_code 68 = .ok (.iconst 0, 1) := by decide +kernel
theorem d_X8_add_69 : decode prog_10_method_6_code 69 = .ok (.iastore, 1) := by decide +kernel
theorem d_X8_add_70 : decode prog_10_method_6_code 70 = .ok (.aload_n 0, 1) := by decide +kernel
theorem d_X8_add_71 : decode prog_10_method_6_code 71 = .ok (.getfield 21, 3) := by decide +kernel
theorem d_X8_add_74 : decode prog_10_method_6_code 74 = .ok (.iload_n 3, 1) := by decide +kernel
theorem d_X8_add_75 : decode prog_10_method_6_code 75 = .ok (.iconst 0, 1) := by decide +kernel
theorem d_X8_add_76 : decode prog_10_method_6_code 76 = .ok (.iastore, 1) := by decide +kernel
theorem d_X8_add_77 : decode prog_10_method_6_code 77 = .ok (.aload_n 0, 1) := by decide +kernel
theorem d_X8_add_78 : decode prog_10_method_6_code 78 = .ok (.dup, 1) := by decide +kernel
theorem d_X8_add_79 : decode prog_10_method_6_code 79 = .ok (.getfield 39, 3) := by decide +kernel
theorem d_X8_add_82 : decode prog_10_method_6_code 82 = .ok (.iconst 1, 1) := by decide +kernel
theorem d_X8_add_83 : decode prog_10_method_6_code 83 = .ok (.iadd, 1) := by decide +kernel
theorem d_X8_add_84 : decode prog_10_method_6_code 84 = .ok (.putfield 39, 3) := by decide +kernel
theorem d_X8_add_87 : decode prog_10_method_6_code 87 = .ok (.iload_n 3, 1) := by decide +kernel
theorem d_X8_add_88 : decode prog_10_method_6_code 88 = .ok (.ireturn, 1) := by decide +kernel
theorem d_X6_endRule_0 : decode prog_8_method_19_code 0 = .ok (.aload_n 0, 1) := by decide +kernel
theorem d_X6_endRule_1 : decode prog_8_method_19_code 1 = .ok (.getfield 18, 3) := by decide +kernel
theorem d_X6_endRule_4 : decode prog_8_method_19_code 4 = .ok (.iconst 0, 1) := by decide +kernel
theorem d_X6_endRule_5 : decode prog_8_method_19_code 5 = .ok (.iaload, 1) := by decide +kernel
theorem d_X6_endRule_6 : decode prog_8_method_19_code 6 = .ok (.istore_n 1, 1) := by decide +kernel
theorem d_X6_endRule_7 : decode prog_8_method_19_code 7 = .ok (.aload_n 0, 1) := by decide +kernel
theorem d_X6_endRule_8 : decode prog_8_method_19_code 8 = .ok (.getfield 18, 3) := by decide +kernel
theorem d_X6_endRule_11 : decode prog_8_method_19_code 11 = .ok (.iconst 1, 1) := by decide +kernel
theorem d_X6_endRule_12 : decode prog_8_method_19_code 12 = .ok (.iaload, 1) := by decide +kernel
theorem d_X6_endRule_13 : decode prog_8_method_19_code 13 = .ok (.istore_n 2, 1) := by decide +kernel
theorem d_X6_endRule_14 : decode prog_8_method_19_code 14 = .ok (.aload_n 0, 1) := by decide +kernel
theorem d_X6_endRule_15 : decode prog_8_method_19_code 15 = .ok (.getfield 25, 3) := by decide +kernel
theorem d_X6_endRule_18 : decode prog_8_method_19_code 18 = .ok (.getfield 53, 3) := by decide +kernel
theorem d_X6_endRule_21 : decode prog_8_method_19_code 21 = .ok (.bipush 59, 2) := by decide +kernel
theorem d_X6_endRule_23 : decode prog_8_method_19_code 23 = .ok (.if_icmp .eq 10, 3) := by decide +kernel
theorem d_X6_endRule_26 : decode prog_8_method_19_code 26 = .ok (.aload_n 0, 1) := by decide +kernel
theorem d_X6_endRule_27 : decode prog_8_method_19_code 27 = .ok (.invokevirtual 75, 3) := by decide +kernel
theorem d_X6_endRule_30 : decode prog_8_method_19_code 30 = .ok (.goto 100, 3) := by decide +kernel
theorem d_X6_endRule_33 : decode prog_8_method_19_code 33 = .ok (.aload_n 0, 1) := by decide +kernel
theorem d_X6_endRule_34 : decode prog_8_method_19_code 34 = .ok (.getfield 32, 3) := by decide +kernel
theorem d_X6_endRule_37 : decode prog_8_method_19_code 37 = .ok (.getfield 129, 3) := by decide +kernel
theorem d_X6_endRule_40 : decode prog_8_method_19_code 40 = .ok (.iload_n 1, 1) := by decide +kernel
theorem d_X6_endRule_41 : decode prog_8_method_19_code 41 = .ok (.iload_n 2, 1) := by decide +kernel
theorem d_X6_endRule_42 : decode prog_8_method_19_code 42 = .ok (.invokevirtual 195, 3) := by decide +kernel
theorem d_X6_endRule_45 : decode prog_8_method_19_code 45 = .ok (.iconst (-1), 1) := by decide +kernel
theorem d_X6_endRule_46 : decode prog_8_method_19_code 46 = .ok (.if_icmp .ne 29, 3) := by decide +kernel
theorem d_X6_endRule_49 : decode prog_8_method_19_code 49 = .ok (.aload_n 0, 1) := by decide +kernel
theorem d_X6_endRule_50 : decode prog_8_method_19_code 50 = .ok (.getfield 12, 3) := by decide +kernel
theorem d_X6_endRule_53 : decode prog_8_method_19_code 53 = .ok (.iconst 1, 1) := by decide +kernel
theorem d_X6_endRule_54 : decode prog_8_method_19_code 54 = .ok (.iconst 1, 1) := by decide +kernel
theorem d_X6_endRule_55 : decode prog_8_method_19_code 55 = .ok (.invokevirtual 198, 3) := by decide +kernel
theorem d_X6_endRule_58 : decode prog_8_method_19_code 58 = .ok (.ifCond .ne 17, 3) := by decide +kernel
theorem d_X6_endRule_61 : decode prog_8_method_19_code 61 = .ok (.aload_n 0, 1) := by decide +kernel
theorem d_X6_endRule_62 : decode prog_8_method_19_code 62 = .ok (.getfield 12, 3) := by decide +kernel
theorem d_X6_endRule_65 : decode prog_8_method_19_code 65 = .ok (.iconst 3, 1) := by decide +kernel
theorem d_X6_endRule_66 : decode prog_8_method_19_code 66 = .ok (.sipush 4000, 3) := by decide +kernel
theorem d_X6_endRule_69 : decode prog_8_method_19_code 69 = .ok (.invokevirtual 198, 3) := by decide +kernel
theorem d_X6_endRule_72 : decode prog_8_method_19_code 72 = .ok (.ifCond .eq 12, 3) := by decide +kernel
theorem d_X6_endRule_75 : decode prog_8_method_19_code 75 = .ok (.aload_n 0, 1) := by decide +kernel
theorem d_X6_endRule_76 : decode prog_8_method_19_code 76 = .ok (.bipush 6, 2) := by decide +kernel
theorem d_X6_endRule_78 : decode prog_8_method_19_code 78 = .ok (.invokevirtual 101, 3) := by decide +kernel
theorem d_X6_endRule_81 : decode prog_8_method_19_code 81 = .ok (.goto 49, 3) := by decide +kernel
theorem d_X6_endRule_84 : decode prog_8_method_19_code 84 = .ok (.aload_n 0, 1) := by decide +kernel
theorem d_X6_endRule_85 : decode prog_8_method_19_code 85 = .ok (.invokevirtual 202, 3) := by decide +kernel
theorem d_X6_endRule_88 : decode prog_8_method_19_code 88 = .ok (.ifCond .eq 10, 3) := by decide +kernel
theorem d_X6_endRule_91 : decode prog_8_method_19_code 91 = .ok (.aload_n 0, 1) := by decide +kernel
theorem d_X6_endRule_92 : decode prog_8_method_19_code 92 = .ok (.invokevirtual 205, 3) := by decide +kernel
theorem d_X6_endRule_95 : decode prog_8_method_19_code 95 = .ok (.ifCond .ne 12, 3) := by decide +kernel
theorem d_X6_endRule_98 : decode prog_8_method_19_code 98 = .ok (.aload_n 0, 1) := by decide +kernel
theorem d_X6_endRule_99 : decode prog_8_method_19_code 99 = .ok (.bipush 7, 2) := by decide +kernel
theorem d_X6_endRule_101 : decode prog_8_method_19_code 101 = .ok (.invokevirtual 101, 3) := by decide +kernel
theorem d_X6_endRule_104 : decode prog_8_method_19_code 104 = .ok (.goto 26, 3) := by decide +kernel
theorem d_X6_endRule_107 : decode prog_8_method_19_code 107 = .ok (.aload_n 0, 1) := by decide +kernel
theorem d_X6_endRule_108 : decode prog_8_method_19_code 108 = .ok (.aload_n 0, 1) := by decide +kernel
theorem d_X6_endRule_109 : decode prog_8_method_19_code 109 = .ok (.getfield 32, 3) := by decide +kernel
theorem d_X6_endRule_112 : decode prog_8_method_19_code 112 = .ok (.getfield 129, 3) := by decide +kernel
theorem d_X6_endRule_115 : decode prog_8_method_19_code 115 = .ok (.iload_n 1, 1) := by decide +kernel
theorem d_X6_endRule_116 : decode prog_8_method_19_code 116 = .ok (.iload_n 2, 1) := by decide +kernel
theorem d_X6_endRule_117 : decode prog_8_method_19_code 117 = .ok (.invokevirtual 208, 3) := by decide +kernel
theorem d_X6_endRule_120 : decode prog_8_method_19_code 120 = .ok (.invokevirtual 210, 3) := by decide +kernel
theorem d_X6_endRule_123 : decode prog_8_method_19_code 123 = .ok (.aload_n 0, 1) := by decide +kernel
theorem d_X6_endRule_124 : decode prog_8_method_19_code 124 = .ok (.getfield 25, 3) := by decide +kernel
theorem d_X6_endRule_127 : decode prog_8_method_19_code 127 = .ok (.invokevirtual 88, 3) := by decide +kernel
theorem d_X6_endRule_130 : decode prog_8_method_19_code 130 = .ok (.return_, 1) := by decide +kernel
theorem d_X6_readSideNames_0 : decode prog_8_method_12_code 0 = .ok (.iconst 0, 1) := by decide +kernel
theorem d_X6_readSideNames_1 : decode prog_8_method_12_code 1 = .ok (.istore_n 2, 1) := by decide +kernel
theorem d_X6_readSideNames_2 : decode prog_8_method_12_code 2 = .ok (.aload_n 0, 1) := by decide +kernel
theorem d_X6_readSideNames_3 : decode prog_8_method_12_code 3 = .ok (.getfield 25, 3) := by decide +kernel
theorem d_X6_readSideNames_6 : decode prog_8_method_12_code 6 = .ok (.invokevirtual 88, 3) := by decide +kernel
theorem d_X6_readSideNames_9 : decode prog_8_method_12_code 9 = .ok (.aload_n 0, 1) := by decide +kernel
theorem d_X6_readSideNames_10 : decode prog_8_method_12_code 10 = .ok (.getfield 25, 3) := by decide +kernel
theorem d_X6_readSideNames_13 : decode prog_8_method_12_code 13 = .ok (.getfield 53, 3) := by decide +kernel
theorem d_X6_readSideNames_16 : decode prog_8_method_12_code 16 = .ok (.iconst 2, 1) := by decide +kernel
theorem d_X6_readSideNames_17 : decode prog_8_method_12_code 17 = .ok (.if_icmp .eq 9, 3) := by decide +kernel
theorem d_X6_readSideNames_20 : decode prog_8_method_12_code 20 = .ok (.aload_n 0, 1) := by decide +kernel
theorem d_X6_readSideNames_21 : decode prog_8_method_12_code 21 = .ok (.invokevirtual 75, 3) := by decide +kernel
theorem d_X6_readSideNames_24 : decode prog_8_method_12_code 24 = .ok (.iload_n 2, 1) := by decide +kernel
theorem d_X6_readSideNames_25 : decode prog_8_method_12_code 25 = .ok (.ireturn, 1) := by decide +kernel
theorem d_X6_readSideNames_26 : decode prog_8_method_12_code 26 = .ok (.aload_n 0, 1) := by decide +kernel
theorem d_X6_readSideNames_27 : decode prog_8_method_12_code 27 = .ok (.iconst 0, 1) := by decide +kernel
theorem d_X6_readSideNames_28 : decode prog_8_method_12_code 28 = .ok (.invokevirtual 157, 3) := by decide +kernel
theorem d_X6_readSideNames_31 : decode prog_8_method_12_code 31 = .ok (.istore_n 3, 1) := by decide +kernel
theorem d_X6_readSideNames_32 : decode prog_8_method_12_code 32 = .ok (.iload_n 2, 1) := by decide +kernel
theorem d_X6_readSideNames_33 : decode prog_8_method_12_code 33 = .ok (.iconst 4, 1) := by decide +kernel
theorem d_X6_readSideNames_34 : decode prog_8_method_12_code 34 = .ok (.if_icmp .ge 19, 3) := by decide +kernel
theorem d_X6_readSideNames_37 : decode prog_8_method_12_code 37 = .ok (.aload_n 0, 1) := by decide +kernel
theorem d_X6_readSideNames_38 : decode prog_8_method_12_code 38 = .ok (.getfield 12, 3) := by decide +kernel
theorem d_X6_readSideNames_41 : decode prog_8_method_12_code 41 = .ok (.iload_n 1, 1) := by decide +kernel
theorem d_X6_readSideNames_42 : decode prog_8_method_12_code 42 = .ok (.iconst 4, 1) := by decide +kernel
theorem d_X6_readSideNames_43 : decode prog_8_method_12_code 43 = .ok (.imul, 1) := by decide +kernel
theorem d_X6_readSideNames_44 : decode prog_8_method_12_code 44 = .ok (.iload_n 2, 1) := by decide +kernel
theorem d_X6_readSideNames_45 : decode prog_8_method_12_code 45 = .ok (.iadd, 1) := by decide +kernel
theorem d_X6_readSideNames_46 : decode prog_8_method_12_code 46 = .ok (.invokestatic 160, 3) := by decide +kernel
theorem d_X6_readSideNames_49 : decode prog_8_method_12_code 49 = .ok (.iload_n 3, 1) := by decide +kernel
theorem d_X6_readSideNames_50 : decode prog_8_method_12_code 50 = .ok (.invokevirtual 163, 3) := by decide +kernel
theorem d_X6_readSideNames_53 : decode prog_8_method_12_code 53 = .ok (.iinc 2 1, 3) := by decide +kernel
theorem d_X6_readSideNames_56 : decode prog_8_method_12_code 56 = .ok (.aload_n 0, 1) := by decide +kernel
theorem d_X6_readSideNames_57 : decode prog_8_method_12_code 57 = .ok (.getfield 47, 3) := by decide +kernel
theorem d_X6_readSideNames_60 : decode prog_8_method_12_code 60 = .ok (.ifCond .ne 22, 3) := by decide +kernel
theorem d_X6_readSideNames_63 : decode prog_8_method_12_code 63 = .ok (.aload_n 0, 1) := by decide +kernel
theorem d_X6_readSideNames_64 : decode prog_8_method_12_code 64 = .ok (.getfield 25, 3) := by decide +kernel
theorem d_X6_readSideNames_67 : decode prog_8_method_12_code 67 = .ok (.getfield 53, 3) := by decide +kernel
theorem d_X6_readSideNames_70 : decode prog_8_method_12_code 70 = .ok (.bipush 44, 2) := by decide +kernel
theorem d_X6_readSideNames_72 : decode prog_8_method_12_code 72 = .ok (.if_icmp .ne 10, 3) := by decide +kernel
theorem d_X6_readSideNames_75 : decode prog_8_method_12_code 75 = .ok (.iload_n 2, 1) := by decide +kernel
theorem d_X6_readSideNames_76 : decode prog_8_method_12_code 76 = .ok (.sipush 4000, 3) := by decide +kernel
theorem d_X6_readSideNames_79 : decode prog_8_method_12_code 79 = .ok (.if_icmp .lt (-77), 3) := by decide +kernel
theorem d_X6_readSideNames_82 : decode prog_8_method_12_code 82 = .ok (.aload_n 0, 1) := by decide +kernel
theorem d_X6_readSideNames_83 : decode prog_8_method_12_code 83 = .ok (.getfield 47, 3) := by decide +kernel
theorem d_X6_readSideNames_86 : decode prog_8_method_12_code 86 = .ok (.ifCond .ne 9, 3) := by decide +kernel
theorem d_X6_readSideNames_89 : decode prog_8_method_12_code 89 = .ok (.aload_n 0, 1) := by decide +kernel
theorem d_X6_readSideNames_90 : decode prog_8_method_12_code 90 = .ok (.bipush 41, 2) := by decide +kernel
theorem d_X6_readSideNames_92 : decode prog_8_method_12_code 92 = .ok (.invokevirtual 119, 3) := by decide +kernel
theorem d_X6_readSideNames_95 : decode prog_8_method_12_code 95 = .ok (.iload_n 2, 1) := by decide +kernel
theorem d_X6_readSideNames_96 : decode prog_8_method_12_code 96 = .ok (.ireturn, 1) := by decide +kernel
theorem d_X6_readSide_0 : decode prog_8_method_11_code 0 = .ok (.aload_n 0, 1) := by decide +kernel
theorem d_X6_readSide_1 : decode prog_8_method_11_code 1 = .ok (.getfield 25, 3) := by decide +kernel
theorem d_X6_readSide_4 : decode prog_8_method_11_code 4 = .ok (.getfield 53, 3) := by decide +kernel
theorem d_X6_readSide_7 : decode prog_8_method_11_code 7 = .ok (.iconst 3, 1) := by decide +kernel
theorem d_X6_readSide_8 : decode prog_8_method_11_code 8 = .ok (.if_icmp .ne 23, 3) := by decide +kernel
theorem d_X6_readSide_11 : decode prog_8_method_11_code 11 = .ok (.aload_n 0, 1) := by decide +kernel
theorem d_X6_readSide_12 : decode prog_8_method_11_code 12 = .ok (.getfield 32, 3) := by decide +kernel
theorem d_X6_readSide_15 : decode prog_8_method_11_code 15 = .ok (.getfield 91, 3) := by decide +kernel
theorem d_X6_readSide_18 : decode prog_8_method_11_code 18 = .ok (.aload_n 0, 1) := by decide +kernel
theorem d_X6_readSide_19 : decode prog_8_method_11_code 19 = .ok (.getfield 25, 3) := by decide +kernel
theorem d_X6_readSide_22 : decode prog_8_method_11_code 22 = .ok (.getfield 81, 3) := by decide +kernel
theorem d_X6_readSide_25 : decode prog_8_method_11_code 25 = .ok (.invokevirtual 95, 3) := by decide +kernel
theorem d_X6_readSide_28 : decode prog_8_method_11_code 28 = .ok (.goto 4, 3) := by decide +kernel
theorem d_X6_readSide_31 : decode prog_8_method_11_code 31 = .ok (.iconst (-1), 1) := by decide +kernel
theorem d_X6_readSide_32 : decode prog_8_method_11_code 32 = .ok (.istore_n 2, 1) := by decide +kernel
theorem d_X6_readSide_33 : decode prog_8_method_11_code 33 = .ok (.aload_n 0, 1) := by decide +kernel
theorem d_X6_readSide_34 : decode prog_8_method_11_code 34 = .ok (.getfield 25, 3) := by decide +kernel
theorem d_X6_readSide_37 : decode prog_8_method_11_code 37 = .ok (.getfield 53, 3) := by decide +kernel
theorem d_X6_readSide_40 : decode prog_8_method_11_code 40 = .ok (.iconst 3, 1) := by decide +kernel
theorem d_X6_readSide_41 : decode prog_8_method_11_code 41 = .ok (.if_icmp .eq 10, 3) := by decide +kernel
theorem d_X6_readSide_44 : decode prog_8_method_11_code 44 = .ok (.aload_n 0, 1) := by decide +kernel
theorem d_X6_readSide_45 : decode prog_8_method_11_code 45 = .ok (.invokevirtual 75, 3) := by decide +kernel
theorem d_X6_readSide_48 : decode prog_8_method_11_code 48 = .ok (.goto 77, 3) := by decide +kernel
theorem d_X6_readSide_51 : decode prog_8_method_11_code 51 = .ok (.iload_n 2, 1) := by decide +kernel
theorem d_X6_readSide_52 : decode prog_8_method_11_code 52 = .ok (.iconst (-1), 1) := by decide +kernel
theorem d_X6_readSide_53 : decode prog_8_method_11_code 53 = .ok (.if_icmp .ne 11, 3) := by decide +kernel
theorem d_X6_readSide_56 : decode prog_8_method_11_code 56 = .ok (.aload_n 0, 1) := by decide +kernel
theorem d_X6_readSide_57 : decode prog_8_method_11_code 57 = .ok (.iconst 3, 1) := by decide +kernel
theorem d_X6_readSide_58 : decode prog_8_method_11_code 58 = .ok (.invokevirtual 101, 3) := by decide +kernel
theorem d_X6_readSide_61 : decode prog_8_method_11_code 61 = .ok (.goto 64, 3) := by decide +kernel
theorem d_X6_readSide_64 : decode prog_8_method_11_code 64 = .ok (.aload_n 0, 1) := by decide +kernel
theorem d_X6_readSide_65 : decode prog_8_method_11_code 65 = .ok (.getfield 25, 3) := by decide +kernel
theorem d_X6_readSide_68 : decode prog_8_method_11_code 68 = .ok (.getfield 85, 3) := by decide +kernel
theorem d_X6_readSide_71 : decode prog_8_method_11_code 71 = .ok (.istore_n 3, 1) := by decide +kernel
theorem d_X6_readSide_72 : decode prog_8_method_11_code 72 = .ok (.aload_n 0, 1) := by decide +kernel
theorem d_X6_readSide_73 : decode prog_8_method_11_code 73 = .ok (.getfield 18, 3) := by decide +kernel
theorem d_X6_readSide_76 : decode prog_8_method_11_code 76 = .ok (.iload_n 1, 1) := by decide +kernel
theorem d_X6_readSide_77 : decode prog_8_method_11_code 77 = .ok (.ifCond .ne 7, 3) := by decide +kernel
theorem d_X6_readSide_80 : decode prog_8_method_11_code 80 = .ok (.iconst 0, 1) := by decide +kernel
theorem d_X6_readSide_81 : decode prog_8_method_11_code 81 = .ok (.goto 4, 3) := by decide +kernel
theorem d_X6_readSide_84 : decode prog_8_method_11_code 84 = .ok (.iconst 1, 1) := by decide +kernel
theorem d_X6_readSide_85 : decode prog_8_method_11_code 85 = .ok (.iload_n 2, 1) := by decide +kernel
theorem d_X6_readSide_86 : decode prog_8_method_11_code 86 = .ok (.iastore, 1) := by decide +kernel
theorem d_X6_readSide_87 : decode prog_8_method_11_code 87 = .ok (.aload_n 0, 1) := by decide +kernel
theorem d_X6_readSide_88 : decode prog_8_method_11_code 88 = .ok (.getfield 25, 3) := by decide +kernel
theorem d_X6_readSide_91 : decode prog_8_method_11_code 91 = .ok (.invokevirtual 88, 3) := by decide +kernel
theorem d_X6_readSide_94 : decode prog_8_method_11_code 94 = .ok (.aload_n 0, 1) := by decide +kernel
theorem d_X6_readSide_95 : decode prog_8_method_11_code 95 = .ok (.getfield 25, 3) := by decide +kernel
theorem d_X6_readSide_98 : decode prog_8_method_11_code 98 = .ok (.getfield 53, 3) := by decide +kernel
theorem d_X6_readSide_101 : decode prog_8_method_11_code 101 = .ok (.bipush 40, 2) := by decide +kernel
theorem d_X6_readSide_103 : decode prog_8_method_11_code 103 = .ok (.if_icmp .ne 11, 3) := by decide +kernel
theorem d_X6_readSide_106 : decode prog_8_method_11_code 106 = .ok (.aload_n 0, 1) := by decide +kernel
theorem d_X6_readSide_107 : decode prog_8_method_11_code 107 = .ok (.iload_n 1, 1) := by decide +kernel
theorem d_X6_readSide_108 : decode prog_8_method_11_code 108 = .ok (.invokevirtual 149, 3) := by decide +kernel
theorem d_X6_readSide_111 : decode prog_8_method_11_code 111 = .ok (.goto 4, 3) := by decide +kernel
theorem d_X6_readSide_114 : decode prog_8_method_11_code 114 = .ok (.iconst 0, 1) := by decide +kernel
theorem d_X6_readSide_115 : decode prog_8_method_11_code 115 = .ok (.istore 4, 2) := by decide +kernel
theorem d_X6_readSide_117 : decode prog_8_method_11_code 117 = .ok (.aload_n 0, 1) := by decide +kernel
theorem d_X6_readSide_118 : decode prog_8_method_11_code 118 = .ok (.iload_n 2, 1) := by decide +kernel
theorem d_X6_readSide_119 : decode prog_8_method_11_code 119 = .ok (.iload 4, 2) := by decide +kernel
theorem d_X6_readSide_121 : decode prog_8_method_11_code 121 = .ok (.iload_n 3, 1) := by decide +kernel
theorem d_X6_readSide_122 : decode prog_8_method_11_code 122 = .ok (.invokevirtual 153, 3) := by decide +kernel
theorem d_X6_readSide_125 : decode prog_8_method_11_code 125 = .ok (.return_, 1) := by decide +kernel
theorem d_X6_readRule_0 : decode prog_8_method_10_code 0 = .ok (.aload_n 0, 1) := by decide +kernel
theorem d_X6_readRule_1 : decode prog_8_method_10_code 1 = .ok (.getfield 32, 3) := by decide +kernel
theorem d_X6_readRule_4 : decode prog_8_method_10_code 4 = .ok (.getfield 129, 3) := by decide +kernel
theorem d_X6_readRule_7 : decode prog_8_method_10_code 7 = .ok (.invokevirtual 133, 3) := by decide +kernel
theorem d_X6_readRule_10 : decode prog_8_method_10_code 10 = .ok (.ifCond .eq 9, 3) := by decide +kernel
theorem d_X6_readRule_13 : decode prog_8_method_10_code 13 = .ok (.aload_n 0, 1) := by decide +kernel
theorem d_X6_readRule_14 : decode prog_8_method_10_code 14 = .ok (.iconst 4, 1) := by decide +kernel
theorem d_X6_readRule_15 : decode prog_8_method_10_code 15 = .ok (.invokevirtual 101, 3) := by decide +kernel
theorem d_X6_readRule_18 : decode prog_8_method_10_code 18 = .ok (.return_, 1) := by decide +kernel
theorem d_X6_readRule_19 : decode prog_8_method_10_code 19 = .ok (.aload_n 0, 1) := by decide +kernel
theorem d_X6_readRule_20 : decode prog_8_method_10_code 20 = .ok (.getfield 25, 3) := by decide +kernel
theorem d_X6_readRule_23 : decode prog_8_method_10_code 23 = .ok (.invokevirtual 88, 3) := by decide +kernel
theorem d_X6_readRule_26 : decode prog_8_method_10_code 26 = .ok (.aload_n 0, 1) := by decide +kernel
theorem d_X6_readRule_27 : decode prog_8_method_10_code 27 = .ok (.getfield 12, 3) := by decide +kernel
theorem d_X6_readRule_30 : decode prog_8_method_10_code 30 = .ok (.invokevirtual 136, 3) := by decide +kernel
theorem d_X6_readRule_33 : decode prog_8_method_10_code 33 = .ok (.aload_n 0, 1) := by decide +kernel
theorem d_X6_readRule_34 : decode prog_8_method_10_code 34 = .ok (.iconst 1, 1) := by decide +kernel
theorem d_X6_readRule_35 : decode prog_8_method_10_code 35 = .ok (.putfield 137, 3) := by decide +kernel
theorem d_X6_readRule_38 : decode prog_8_method_10_code 38 = .ok (.aload_n 0, 1) := by decide +kernel
theorem d_X6_readRule_39 : decode prog_8_method_10_code 39 = .ok (.iconst 0, 1) := by decide +kernel
theorem d_X6_readRule_40 : decode prog_8_method_10_code 40 = .ok (.invokevirtual 140, 3) := by decide +kernel
theorem d_X6_readRule_43 : decode prog_8_method_10_code 43 = .ok (.aload_n 0, 1) := by decide +kernel
theorem d_X6_readRule_44 : decode prog_8_method_10_code 44 = .ok (.getfield 47, 3) := by decide +kernel
theorem d_X6_readRule_47 : decode prog_8_method_10_code 47 = .ok (.ifCond .ne 8, 3) := by decide +kernel
theorem d_X6_readRule_50 : decode prog_8_method_10_code 50 = .ok (.aload_n 0, 1) := by decide +kernel
theorem d_X6_readRule_51 : decode prog_8_method_10_code 51 = .ok (.iconst 4, 1) := by decide +kernel
theorem d_X6_readRule_52 : decode prog_8_method_10_code 52 = .ok (.invokevirtual 119, 3) := by decide +kernel
theorem d_X6_readRule_55 : decode prog_8_method_10_code 55 = .ok (.aload_n 0, 1) := by decide +kernel
theorem d_X6_readRule_56 : decode prog_8_method_10_code 56 = .ok (.getfield 47, 3) := by decide +kernel
theorem d_X6_readRule_59 : decode prog_8_method_10_code 59 = .ok (.ifCond .ne 8, 3) := by decide +kernel
theorem d_X6_readRule_62 : decode prog_8_method_10_code 62 = .ok (.aload_n 0, 1) := by decide +kernel
theorem d_X6_readRule_63 : decode prog_8_method_10_code 63 = .ok (.iconst 1, 1) := by decide +kernel
theorem d_X6_readRule_64 : decode prog_8_method_10_code 64 = .ok (.invokevirtual 140, 3) := by decide +kernel
theorem d_X6_readRule_67 : decode prog_8_method_10_code 67 = .ok (.aload_n 0, 1) := by decide +kernel
theorem d_X6_readRule_68 : decode prog_8_method_10_code 68 = .ok (.getfield 47, 3) := by decide +kernel
theorem d_X6_readRule_71 : decode prog_8_method_10_code 71 = .ok (.ifCond .ne 26, 3) := by decide +kernel
theorem d_X6_readRule_74 : decode prog_8_method_10_code 74 = .ok (.aload_n 0, 1) := by decide +kernel
theorem d_X6_readRule_75 : decode prog_8_method_10_code 75 = .ok (.getfield 25, 3) := by decide +kernel
theorem d_X6_readRule_78 : decode prog_8_method_10_code 78 = .ok (.getfield 53, 3) := by decide +kernel
theorem d_X6_readRule_81 : decode prog_8_method_10_code 81 = .ok (.bipush 58, 2) := by decide +kernel
theorem d_X6_readRule_83 : decode prog_8_method_10_code 83 = .ok (.if_icmp .ne 14, 3) := by decide +kernel
theorem d_X6_readRule_86 : decode prog_8_method_10_code 86 = .ok (.aload_n 0, 1) := by decide +kernel
theorem d_X6_readRule_87 : decode prog_8_method_10_code 87 = .ok (.getfield 25, 3) := by decide +kernel
theorem d_X6_readRule_90 : decode prog_8_method_10_code 90 = .ok (.invokevirtual 88, 3) := by decide +kernel
theorem d_X6_readRule_93 : decode prog_8_method_10_code 93 = .ok (.aload_n 0, 1) := by decide +kernel
theorem d_X6_readRule_94 : decode prog_8_method_10_code 94 = .ok (.invokevirtual 143, 3) := by decide +kernel
theorem d_X6_readRule_97 : decode prog_8_method_10_code 97 = .ok (.aload_n 0, 1) := by decide +kernel
theorem d_X6_readRule_98 : decode prog_8_method_10_code 98 = .ok (.getfield 47, 3) := by decide +kernel
theorem d_X6_readRule_101 : decode prog_8_method_10_code 101 = .ok (.ifCond .ne 7, 3) := by decide +kernel
theorem d_X6_readRule_104 : decode prog_8_method_10_code 104 = .ok (.aload_n 0, 1) := by decide +kernel
theorem d_X6_readRule_105 : decode prog_8_method_10_code 105 = .ok (.invokevirtual 146, 3) := by decide +kernel
theorem d_X6_readRule_108 : decode prog_8_method_10_code 108 = .ok (.return_, 1) := by decide +kernel
theorem d_X9_addToken_0 : decode prog_11_method_7_code 0 = .ok (.aload_n 0, 1) := by decide +kernel
theorem d_X9_addToken_1 : decode prog_11_method_7_code 1 = .ok (.getfield 34, 3) := by decide +kernel
theorem d_X9_addToken_4 : decode prog_11_method_7_code 4 = .ok (.sipush 4000, 3) := by decide +kernel
theorem d_X9_addToken_7 : decode prog_11_method_7_code 7 = .ok (.if_icmp .gt 43, 3) := by decide +kernel
theorem d_X9_addToken_10 : decode prog_11_method_7_code 10 = .ok (.aload_n 0, 1) := by decide +kernel
theorem d_X9_addToken_11 : decode prog_11_method_7_code 11 = .ok (.getfield 15, 3) := by decide +kernel
theorem d_X9_addToken_14 : decode prog_11_method_7_code 14 = .ok (.aload_n 0, 1) := by decide +kernel
theorem d_X9_addToken_15 : decode prog_11_method_7_code 15 = .ok (.getfield 34, 3) := by decide +kernel
theorem d_X9_addToken_18 : decode prog_11_method_7_code 18 = .ok (.iload_n 1, 1) := by decide +kernel
theorem d_X9_addToken_19 : decode prog_11_method_7_code 19 = .ok (.iastore, 1) := by decide +kernel
theorem d_X9_addToken_20 : decode prog_11_method_7_code 20 = .ok (.aload_n 0, 1) := by decide +kernel
theorem d_X9_addToken_21 : decode prog_11_method_7_code 21 = .ok (.getfield 19, 3) := by decide +kernel
theorem d_X9_addToken_24 : decode prog_11_method_7_code 24 = .ok (.aload_n 0, 1) := by decide +kernel
theorem d_X9_addToken_25 : decode prog_11_method_7_code 25 = .ok (.getfield 34, 3) := by decide +kernel
theorem d_X9_addToken_28 : decode prog_11_method_7_code 28 = .ok (.iload_n 2, 1) := by decide +kernel
theorem d_X9_addToken_29 : decode prog_11_method_7_code 29 = .ok (.iastore, 1) := by decide +kernel
theorem d_X9_addToken_30 : decode prog_11_method_7_code 30 = .ok (.aload_n 0, 1) := by decide +kernel
theorem d_X9_addToken_31 : decode prog_11_method_7_code 31 = .ok (.getfield 22, 3) := by decide +kernel
theorem d_X9_addToken_34 : decode prog_11_method_7_code 34 = .ok (.aload_n 0, 1) := by decide +kernel
theorem d_X9_addToken_35 : decode prog_11_method_7_code 35 = .ok (.getfield 34, 3) := by decide +kernel
theorem d_X9_addToken_38 : decode prog_11_method_7_code 38 = .ok (.lload_n 3, 1) := by decide +kernel
theorem d_X9_addToken_39 : decode prog_11_method_7_code 39 = .ok (.lastore, 1) := by decide +kernel
theorem d_X9_addToken_40 : decode prog_11_method_7_code 40 = .ok (.aload_n 0, 1) := by decide +kernel
theorem d_X9_addToken_41 : decode prog_11_method_7_code 41 = .ok (.dup, 1) := by decide +kernel
theorem d_X9_addToken_42 : decode prog_11_method_7_code 42 = .ok (.getfield 34, 3) := by decide +kernel
theorem d_X9_addToken_45 : decode prog_11_method_7_code 45 = .ok (.iconst 1, 1) := by decide +kernel
theorem d_X9_addToken_46 : decode prog_11_method_7_code 46 = .ok (.iadd, 1) := by decide +kernel
theorem d_X9_addToken_47 : decode prog_11_method_7_code 47 = .ok (.putfield 34, 3) := by decide +kernel
theorem d_X9_addToken_50 : decode prog_11_method_7_code 50 = .ok (.return_, 1) := by decide +kernel
theorem d_X9_byteAt_0 : decode prog_11_method_4_code 0 = .ok (.iload_n 1, 1) := by decide +kernel
theorem d_X9_byteAt_1 : decode prog_11_method_4_code 1 = .ok (.aload_n 0, 1) := by decide +kernel
theorem d_X9_byteAt_2 : decode prog_11_method_4_code 2 = .ok (.getfield 26, 3) := by decide +kernel
theorem d_X9_byteAt_5 : decode prog_11_method_4_code 5 = .ok (.invokestatic 30, 3) := by decide +kernel
theorem d_X9_byteAt_8 : decode prog_11_method_4_code 8 = .ok (.ifCond .eq 23, 3) := by decide +kernel
theorem d_X9_byteAt_11 : decode prog_11_method_4_code 11 = .ok (.iload_n 1, 1) := by decide +kernel
theorem d_X9_byteAt_12 : decode prog_11_method_4_code 12 = .ok (.sipush 4000, 3) := by decide +kernel
theorem d_X9_byteAt_15 : decode prog_11_method_4_code 15 = .ok (.if_icmp .ge 16, 3) := by decide +kernel
theorem d_X9_byteAt_18 : decode prog_11_method_4_code 18 = .ok (.aload_n 0, 1) := by decide +kernel
theorem d_X9_byteAt_19 : decode prog_11_method_4_code 19 = .ok (.getfield 9, 3) := by decide +kernel
theorem d_X9_byteAt_22 : decode prog_11_method_4_code 22 = .ok (.iload_n 1, 1) := by decide +kernel
theorem d_X9_byteAt_23 : decode prog_11_method_4_code 23 = .ok (.baload, 1) := by decide +kernel
theorem d_X9_byteAt_24 : decode prog_11_method_4_code 24 = .ok (.sipush 255, 3) := by decide +kernel
theorem d_X9_byteAt_27 : decode prog_11_method_4_code 27 = .ok (.iand, 1) := by decide +kernel
theorem d_X9_byteAt_28 : decode prog_11_method_4_code 28 = .ok (.goto 4, 3) := by decide +kernel
theorem d_X9_byteAt_31 : decode prog_11_method_4_code 31 = .ok (.iconst (-1), 1) := by decide +kernel
theorem d_X9_byteAt_32 : decode prog_11_method_4_code 32 = .ok (.ireturn, 1) := by decide +kernel
theorem d_X9_isBig_0 : decode prog_11_method_9_code 0 = .ok (.iload_n 0, 1) := by decide +kernel
theorem d_X9_isBig_1 : decode prog_11_method_9_code 1 = .ok (.bipush 65, 2) := by decide +kernel
theorem d_X9_isBig_3 : decode prog_11_method_9_code 3 = .ok (.if_icmp .lt 13, 3) := by decide +kernel
theorem d_X9_isBig_6 : decode prog_11_method_9_code 6 = .ok (.iload_n 0, 1) := by decide +kernel
theorem d_X9_isBig_7 : decode prog_11_method_9_code 7 = .ok (.bipush 90, 2) := by decide +kernel
theorem d_X9_isBig_9 : decode prog_11_method_9_code 9 = .ok (.if_icmp .gt 7, 3) := by decide +kernel
theorem d_X9_isBig_12 : decode prog_11_method_9_code 12 = .ok (.iconst 1, 1) := by decide +kernel
theorem d_X9_isBig_13 : decode prog_11_method_9_code 13 = .ok (.goto 4, 3) := by decide +kernel
theorem d_X9_isBig_16 : decode prog_11_method_9_code 16 = .ok (.iconst 0, 1) := by decide +kernel
theorem d_X9_isBig_17 : decode prog_11_method_9_code 17 = .ok (.ireturn, 1) := by decide +kernel
theorem d_X9_isDigit_0 : decode prog_11_method_10_code 0 = .ok (.iload_n 0, 1) := by decide +kernel
theorem d_X9_isDigit_1 : decode prog_11_method_10_code 1 = .ok (.bipush 48, 2) := by decide +kernel
theorem d_X9_isDigit_3 : decode prog_11_method_10_code 3 = .ok (.if_icmp .lt 13, 3) := by decide +kernel
theorem d_X9_isDigit_6 : decode prog_11_method_10_code 6 = .ok (.iload_n 0, 1) := by decide +kernel
theorem d_X9_isDigit_7 : decode prog_11_method_10_code 7 = .ok (.bipush 57, 2) := by decide +kernel
theorem d_X9_isDigit_9 : decode prog_11_method_10_code 9 = .ok (.if_icmp .gt 7, 3) := by decide +kernel
theorem d_X9_isDigit_12 : decode prog_11_method_10_code 12 = .ok (.iconst 1, 1) := by decide +kernel
theorem d_X9_isDigit_13 : decode prog_11_method_10_code 13 = .ok (.goto 4, 3) := by decide +kernel
theorem d_X9_isDigit_16 : decode prog_11_method_10_code 16 = .ok (.iconst 0, 1) := by decide +kernel
theorem d_X9_isDigit_17 : decode prog_11_method_10_code 17 = .ok (.ireturn, 1) := by decide +kernel
theorem d_X9_isLetterOrDigit_0 : decode prog_11_method_11_code 0 = .ok (.iload_n 0, 1) := by decide +kernel
theorem d_X9_isLetterOrDigit_1 : decode prog_11_method_11_code 1 = .ok (.bipush 97, 2) := by decide +kernel
theorem d_X9_isLetterOrDigit_3 : decode prog_11_method_11_code 3 = .ok (.if_icmp .lt 9, 3) := by decide +kernel
theorem d_X9_isLetterOrDigit_6 : decode prog_11_method_11_code 6 = .ok (.iload_n 0, 1) := by decide +kernel
theorem d_X9_isLetterOrDigit_7 : decode prog_11_method_11_code 7 = .ok (.bipush 122, 2) := by decide +kernel
theorem d_X9_isLetterOrDigit_9 : decode prog_11_method_11_code 9 = .ok (.if_icmp .le 17, 3) := by decide +kernel
theorem d_X9_isLetterOrDigit_12 : decode prog_11_method_11_code 12 = .ok (.iload_n 0, 1) := by decide +kernel
theorem d_X9_isLetterOrDigit_13 : decode prog_11_method_11_code 13 = .ok (.invokestatic 90, 3) := by decide +kernel
theorem d_X9_isLetterOrDigit_16 : decode prog_11_method_11_code 16 = .ok (.ifCond .ne 10, 3) := by decide +kernel
theorem d_X9_isLetterOrDigit_19 : decode prog_11_method_11_code 19 = .ok (.iload_n 0, 1) := by decide +kernel
theorem d_X9_isLetterOrDigit_20 : decode prog_11_method_11_code 20 = .ok (.invokestatic 94, 3) := by decide +kernel
theorem d_X9_isLetterOrDigit_23 : decode prog_11_method_11_code 23 = .ok (.ifCond .eq 7, 3) := by decide +kernel
theorem d_X9_isLetterOrDigit_26 : decode prog_11_method_11_code 26 = .ok (.iconst 1, 1) := by decide +kernel
theorem d_X9_isLetterOrDigit_27 : decode prog_11_method_11_code 27 = .ok (.goto 4, 3) := by decide +kernel
theorem d_X9_isLetterOrDigit_30 : decode prog_11_method_11_code 30 = .ok (.iconst 0, 1) := by decide +kernel
theorem d_X9_isLetterOrDigit_31 : decode prog_11_method_11_code 31 = .ok (.ireturn, 1) := by decide +kernel
theorem d_X9_countRow_0 : decode prog_11_method_12_code 0 = .ok (.iconst 0, 1) := by decide +kernel
theorem d_X9_countRow_1 : decode prog_11_method_12_code 1 = .ok (.istore_n 2, 1) := by decide +kernel
theorem d_X9_countRow_2 : decode prog_11_method_12_code 2 = .ok (.iload_n 1, 1) := by decide +kernel
theorem d_X9_countRow_3 : decode prog_11_method_12_code 3 = .ok (.iload_n 2, 1) := by decide +kernel
theorem d_X9_countRow_4 : decode prog_11_method_12_code 4 = .ok (.iadd, 1) := by decide +kernel
theorem d_X9_countRow_5 : decode prog_11_method_12_code 5 = .ok (.aload_n 0, 1) := by decide +kernel
theorem d_X9_countRow_6 : decode prog_11_method_12_code 6 = .ok (.getfield 26, 3) := by decide +kernel
theorem d_X9_countRow_9 : decode prog_11_method_12_code 9 = .ok (.if_icmp .ge 22, 3) := by decide +kernel
theorem d_X9_countRow_12 : decode prog_11_method_12_code 12 = .ok (.aload_n 0, 1) := by decide +kernel
theorem d_X9_countRow_13 : decode prog_11_method_12_code 13 = .ok (.iload_n 1, 1) := by decide +kernel
theorem d_X9_countRow_14 : decode prog_11_method_12_code 14 = .ok (.iload_n 2, 1) := by decide +kernel
theorem d_X9_countRow_15 : decode prog_11_method_12_code 15 = .ok (.iadd, 1) := by decide +kernel
theorem d_X9_countRow_16 : decode prog_11_method_12_code 16 = .ok (.invokevirtual 57, 3) := by decide +kernel
theorem d_X9_countRow_19 : decode prog_11_method_12_code 19 = .ok (.invokestatic 97, 3) := by decide +kernel
theorem d_X9_countRow_22 : decode prog_11_method_12_code 22 = .ok (.ifCond .eq 9, 3) := by decide +kernel
theorem d_X9_countRow_25 : decode prog_11_method_12_code 25 = .ok (.iinc 2 1, 3) := by decide +kernel
theorem d_X9_countRow_28 : decode prog_11_method_12_code 28 = .ok (.goto (-26), 3) := by decide +kernel
theorem d_X9_countRow_31 : decode prog_11_method_12_code 31 = .ok (.iload_n 2, 1) := by decide +kernel
theorem d_X9_countRow_32 : decode prog_11_method_12_code 32 = .ok (.ireturn, 1) := by decide +kernel
theorem d_X9_kindOfRow_0 : decode prog_11_method_13_code 0 = .ok (.aload_n 0, 1) := by decide +kernel
theorem d_X9_kindOfRow_1 : decode prog_11_method_13_code 1 = .ok (.iload_n 1, 1) := by decide +kernel
theorem d_X9_kindOfRow_2 : decode prog_11_method_13_code 2 = .ok (.invokevirtual 57, 3) := by decide +kernel
theorem d_X9_kindOfRow_5 : decode prog_11_method_13_code 5 = .ok (.invokestatic 90, 3) := by decide +kernel
theorem d_X9_kindOfRow_8 : decode prog_11_method_13_code 8 = .ok (.istore_n 3, 1) := by decide +kernel
theorem d_X9_kindOfRow_9 : decode prog_11_method_13_code 9 = .ok (.iload_n 2, 1) := by decide +kernel
theorem d_X9_kindOfRow_10 : decode prog_11_method_13_code 10 = .ok (.bipush 8, 2) := by decide +kernel
theorem d_X9_kindOfRow_12 : decode prog_11_method_13_code 12 = .ok (.if_icmp .gt 14, 3) := by decide +kernel
theorem d_X9_kindOfRow_15 : decode prog_11_method_13_code 15 = .ok (.aload_n 0, 1) := by decide +kernel
theorem d_X9_kindOfRow_16 : decode prog_11_method_13_code 16 = .ok (.iload_n 1, 1) := by decide +kernel
theorem d_X9_kindOfRow_17 : decode prog_11_method_13_code 17 = .ok (.invokevirtual 57, 3) := by decide +kernel
theorem d_X9_kindOfRow_20 : decode prog_11_method_13_code 20 = .ok (.invokestatic 94, 3) := by decide +kernel
theorem d_X9_kindOfRow_23 : decode prog_11_method_13_code 23 = .ok (.ifCond .eq 5, 3) := by decide +kernel
theorem d_X9_kindOfRow_26 : decode prog_11_method_13_code 26 = .ok (.iconst 0, 1) := by decide +kernel
theorem d_X9_kindOfRow_27 : decode prog_11_method_13_code 27 = .ok (.ireturn, 1) := by decide +kernel
theorem d_X9_kindOfRow_28 : decode prog_11_method_13_code 28 = .ok (.iconst 1, 1) := by decide +kernel
theorem d_X9_kindOfRow_29 : decode prog_11_method_13_code 29 = .ok (.istore 4, 2) := by decide +kernel
theorem d_X9_kindOfRow_31 : decode prog_11_method_13_code 31 = .ok (.iload 4, 2) := by decide +kernel
theorem d_X9_kindOfRow_33 : decode prog_11_method_13_code 33 = .ok (.iload_n 2, 1) := by decide +kernel
theorem d_X9_kindOfRow_34 : decode prog_11_method_13_code 34 = .ok (.if_icmp .ge 29, 3) := by decide +kernel
theorem d_X9_kindOfRow_37 : decode prog_11_method_13_code 37 = .ok (.iload_n 3, 1) := by decide +kernel
theorem d_X9_kindOfRow_38 : decode prog_11_method_13_code 38 = .ok (.ifCond .ne 25, 3) := by decide +kernel
theorem d_X9_kindOfRow_41 : decode prog_11_method_13_code 41 = .ok (.aload_n 0, 1) := by decide +kernel
theorem d_X9_kindOfRow_42 : decode prog_11_method_13_code 42 = .ok (.iload_n 1, 1) := by decide +kernel
theorem d_X9_kindOfRow_43 : decode prog_11_method_13_code 43 = .ok (.iload 4, 2) := by decide +kernel
theorem d_X9_kindOfRow_45 : decode prog_11_method_13_code 45 = .ok (.iadd, 1) := by decide +kernel
theorem d_X9_kindOfRow_46 : decode prog_11_method_13_code 46 = .ok (.invokevirtual 57, 3) := by decide +kernel
theorem d_X9_kindOfRow_49 : decode prog_11_method_13_code 49 = .ok (.invokestatic 90, 3) := by decide +kernel
theorem d_X9_kindOfRow_52 : decode prog_11_method_13_code 52 = .ok (.ifCond .eq 5, 3) := by decide +kernel
theorem d_X9_kindOfRow_55 : decode prog_11_method_13_code 55 = .ok (.iconst 0, 1) := by decide +kernel
theorem d_X9_kindOfRow_56 : decode prog_11_method_13_code 56 = .ok (.ireturn, 1) := by decide +kernel
theorem d_X9_kindOfRow_57 : decode prog_11_method_13_code 57 = .ok (.iinc 4 1, 3) := by decide +kernel
theorem d_X9_kindOfRow_60 : decode prog_11_method_13_code 60 = .ok (.goto (-29), 3) := by decide +kernel
theorem d_X9_kindOfRow_63 : decode prog_11_method_13_code 63 = .ok (.iload_n 3, 1) := by decide +kernel
theorem d_X9_kindOfRow_64 : decode prog_11_method_13_code 64 = .ok (.ifCond .eq 7, 3) := by decide +kernel
theorem d_X9_kindOfRow_67 : decode prog_11_method_13_code 67 = .ok (.iconst 3, 1) := by decide +kernel
theorem d_X9_kindOfRow_68 : decode prog_11_method_13_code 68 = .ok (.goto 4, 3) := by decide +kernel
theorem d_X9_kindOfRow_71 : decode prog_11_method_13_code 71 = .ok (.iconst 2, 1) := by decide +kernel
theorem d_X9_kindOfRow_72 : decode prog_11_method_13_code 72 = .ok (.ireturn, 1) := by decide +kernel
theorem d_X9_packName_0 : decode prog_11_method_14_code 0 = .ok (.lconst 0, 1) := by decide +kernel
theorem d_X9_packName_1 : decode prog_11_method_14_code 1 = .ok (.lstore_n 3, 1) := by decide +kernel
theorem d_X9_packName_2 : decode prog_11_method_14_code 2 = .ok (.iconst 0, 1) := by decide +kernel
theorem d_X9_packName_3 : decode prog_11_method_14_code 3 = .ok (.istore 5, 2) := by decide +kernel
theorem d_X9_packName_5 : decode prog_11_method_14_code 5 = .ok (.iload 5, 2) := by decide +kernel
theorem d_X9_packName_7 : decode prog_11_method_14_code 7 = .ok (.iload_n 2, 1) := by decide +kernel
theorem d_X9_packName_8 : decode prog_11_method_14_code 8 = .ok (.if_icmp .ge 31, 3) := by decide +kernel
theorem d_X9_packName_11 : decode prog_11_method_14_code 11 = .ok (.iload 5, 2) := by decide +kernel
theorem d_X9_packName_13 : decode prog_11_method_14_code 13 = .ok (.bipush 8, 2) := by decide +kernel
theorem d_X9_packName_15 : decode prog_11_method_14_code 15 = .ok (.if_icmp .ge 24, 3) := by decide +kernel
theorem d_X9_packName_18 : decode prog_11_method_14_code 18 = .ok (.lload_n 3, 1) := by decide +kernel
theorem d_X9_packName_19 : decode prog_11_method_14_code 19 = .ok (.bipush 8, 2) := by decide +kernel
theorem d_X9_packName_21 : decode prog_11_method_14_code 21 = .ok (.lshl, 1) := by decide +kernel
theorem d_X9_packName_22 : decode prog_11_method_14_code 22 = .ok (.aload_n 0, 1) := by decide +kernel
theorem d_X9_packName_23 : decode prog_11_method_14_code 23 = .ok (.iload_n 1, 1) := by decide +kernel
theorem d_X9_packName_24 : decode prog_11_method_14_code 24 = .ok (.iload 5, 2) := by decide +kernel
theorem d_X9_packName_26 : decode prog_11_method_14_code 26 = .ok (.iadd, 1) := by decide +kernel
theorem d_X9_packName_27 : decode prog_11_method_14_code 27 = .ok (.invokevirtual 57, 3) := by decide +kernel
theorem d_X9_packName_30 : decode prog_11_method_14_code 30 = .ok (.i2l, 1) := by decide +kernel
theorem d_X9_packName_31 : decode prog_11_method_14_code 31 = .ok (.lor, 1) := by decide +kernel
theorem d_X9_packName_32 : decode prog_11_method_14_code 32 = .ok (.lstore_n 3, 1) := by decide +kernel
theorem d_X9_packName_33 : decode prog_11_method_14_code 33 = .ok (.iinc 5 1, 3) := by decide +kernel
theorem d_X9_packName_36 : decode prog_11_method_14_code 36 = .ok (.goto (-31), 3) := by decide +kernel
theorem d_X9_packName_39 : decode prog_11_method_14_code 39 = .ok (.lload_n 3, 1) := by decide +kernel
theorem d_X9_packName_40 : decode prog_11_method_14_code 40 = .ok (.lreturn, 1) := by decide +kernel
theorem d_X9_scanAt_0 : decode prog_11_method_6_code 0 = .ok (.aload_n 0, 1) := by decide +kernel
theorem d_X9_scanAt_1 : decode prog_11_method_6_code 1 = .ok (.iload_n 1, 1) := by decide +kernel
theorem d_X9_scanAt_2 : decode prog_11_method_6_code 2 = .ok (.invokevirtual 57, 3) := by decide +kernel
theorem d_X9_scanAt_5 : decode prog_11_method_6_code 5 = .ok (.istore_n 2, 1) := by decide +kernel
theorem d_X9_scanAt_6 : decode prog_11_method_6_code 6 = .ok (.aload_n 0, 1) := by decide +kernel
theorem d_X9_scanAt_7 : decode prog_11_method_6_code 7 = .ok (.iload_n 1, 1) := by decide +kernel
theorem d_X9_scanAt_8 : decode prog_11_method_6_code 8 = .ok (.invokevirtual 60, 3) := by decide +kernel
theorem d_X9_scanAt_11 : decode prog_11_method_6_code 11 = .ok (.istore_n 3, 1) := by decide +kernel
theorem d_X9_scanAt_12 : decode prog_11_method_6_code 12 = .ok (.iload_n 3, 1) := by decide +kernel
theorem d_X9_scanAt_13 : decode prog_11_method_6_code 13 = .ok (.ifCond .le 22, 3) := by decide +kernel
theorem d_X9_scanAt_16 : decode prog_11_method_6_code 16 = .ok (.aload_n 0, 1) := by decide +kernel
theorem d_X9_scanAt_17 : decode prog_11_method_6_code 17 = .ok (.aload_n 0, 1) := by decide +kernel
theorem d_X9_scanAt_18 : decode prog_11_method_6_code 18 = .ok (.iload_n 1, 1) := by decide +kernel
theorem d_X9_scanAt_19 : decode prog_11_method_6_code 19 = .ok (.iload_n 3, 1) := by decide +kernel
theorem d_X9_scanAt_20 : decode prog_11_method_6_code 20 = .ok (.invokevirtual 63, 3) := by decide +kernel
theorem d_X9_scanAt_23 : decode prog_11_method_6_code 23 = .ok (.iload_n 1, 1) := by decide +kernel
theorem d_X9_scanAt_24 : decode prog_11_method_6_code 24 = .ok (.aload_n 0, 1) := by decide +kernel
theorem d_X9_scanAt_25 : decode prog_11_method_6_code 25 = .ok (.iload_n 1, 1) := by decide +kernel
theorem d_X9_scanAt_26 : decode prog_11_method_6_code 26 = .ok (.iload_n 3, 1) := by decide +kernel
theorem d_X9_scanAt_27 : decode prog_11_method_6_code 27 = .ok (.invokevirtual 66, 3) := by decide +kernel
theorem d_X9_scanAt_30 : decode prog_11_method_6_code 30 = .ok (.invokevirtual 47, 3) := by decide +kernel
theorem d_X9_scanAt_33 : decode prog_11_method_6_code 33 = .ok (.iload_n 3, 1) := by decide +kernel
theorem d_X9_scanAt_34 : decode prog_11_method_6_code 34 = .ok (.ireturn, 1) := by decide +kernel
theorem d_X9_scanAt_35 : decode prog_11_method_6_code 35 = .ok (.iload_n 2, 1) := by decide +kernel
theorem d_X9_scanAt_36 : decode prog_11_method_6_code 36 = .ok (.bipush 62, 2) := by decide +kernel
theorem d_X9_scanAt_38 : decode prog_11_method_6_code 38 = .ok (.if_icmp .ne 24, 3) := by decide +kernel
theorem d_X9_scanAt_41 : decode prog_11_method_6_code 41 = .ok (.aload_n 0, 1) := by decide +kernel
theorem d_X9_scanAt_42 : decode prog_11_method_6_code 42 = .ok (.iload_n 1, 1) := by decide +kernel
theorem d_X9_scanAt_43 : decode prog_11_method_6_code 43 = .ok (.iconst 1, 1) := by decide +kernel
theorem d_X9_scanAt_44 : decode prog_11_method_6_code 44 = .ok (.iadd, 1) := by decide +kernel
theorem d_X9_scanAt_45 : decode prog_11_method_6_code 45 = .ok (.invokevirtual 57, 3) := by decide +kernel
theorem d_X9_scanAt_48 : decode prog_11_method_6_code 48 = .ok (.bipush 60, 2) := by decide +kernel
theorem d_X9_scanAt_50 : decode prog_11_method_6_code 50 = .ok (.if_icmp .ne 12, 3) := by decide +kernel
theorem d_X9_scanAt_53 : decode prog_11_method_6_code 53 = .ok (.aload_n 0, 1) := by decide +kernel
theorem d_X9_scanAt_54 : decode prog_11_method_6_code 54 = .ok (.iconst 4, 1) := by decide +kernel
theorem d_X9_scanAt_55 : decode prog_11_method_6_code 55 = .ok (.iload_n 1, 1) := by decide +kernel
theorem d_X9_scanAt_56 : decode prog_11_method_6_code 56 = .ok (.lconst 0, 1) := by decide +kernel
theorem d_X9_scanAt_57 : decode prog_11_method_6_code 57 = .ok (.invokevirtual 47, 3) := by decide +kernel
theorem d_X9_scanAt_60 : decode prog_11_method_6_code 60 = .ok (.iconst 2, 1) := by decide +kernel
theorem d_X9_scanAt_61 : decode prog_11_method_6_code 61 = .ok (.ireturn, 1) := by decide +kernel
theorem d_X9_scanAt_62 : decode prog_11_method_6_code 62 = .ok (.iload_n 2, 1) := by decide +kernel
theorem d_X9_scanAt_63 : decode prog_11_method_6_code 63 = .ok (.bipush 10, 2) := by decide +kernel
theorem d_X9_scanAt_65 : decode prog_11_method_6_code 65 = .ok (.if_icmp .eq 30, 3) := by decide +kernel
theorem d_X9_scanAt_68 : decode prog_11_method_6_code 68 = .ok (.iload_n 2, 1) := by decide +kernel
theorem d_X9_scanAt_69 : decode prog_11_method_6_code 69 = .ok (.bipush 32, 2) := by decide +kernel
theorem d_X9_scanAt_71 : decode prog_11_method_6_code 71 = .ok (.if_icmp .eq 24, 3) := by decide +kernel
theorem d_X9_scanAt_74 : decode prog_11_method_6_code 74 = .ok (.aload_n 0, 1) := by decide +kernel
theorem d_X9_scanAt_75 : decode prog_11_method_6_code 75 = .ok (.ldc 70, 2) := by decide +kernel
theorem d_X9_scanAt_77 : decode prog_11_method_6_code 77 = .ok (.iload_n 2, 1) := by decide +kernel
theorem d_X9_scanAt_78 : decode prog_11_method_6_code 78 = .ok (.i2c, 1) := by decide +kernel
theorem d_X9_scanAt_79 : decode prog_11_method_6_code 79 = .ok (.invokevirtual 72, 3) := by decide +kernel
theorem d_X9_scanAt_82 : decode prog_11_method_6_code 82 = .ok (.ifCond .lt 7, 3) := by decide +kernel
theorem d_X9_scanAt_85 : decode prog_11_method_6_code 85 = .ok (.iload_n 2, 1) := by decide +kernel
theorem d_X9_scanAt_86 : decode prog_11_method_6_code 86 = .ok (.goto 4, 3) := by decide +kernel
theorem d_X9_scanAt_89 : decode prog_11_method_6_code 89 = .ok (.iconst 0, 1) := by decide +kernel
theorem d_X9_scanAt_90 : decode prog_11_method_6_code 90 = .ok (.iload_n 1, 1) := by decide +kernel
theorem d_X9_scanAt_91 : decode prog_11_method_6_code 91 = .ok (.lconst 0, 1) := by decide +kernel
theorem d_X9_scanAt_92 : decode prog_11_method_6_code 92 = .ok (.invokevirtual 47, 3) := by decide +kernel
theorem d_X9_scanAt_95 : decode prog_11_method_6_code 95 = .ok (.iconst 1, 1) := by decide +kernel
theorem d_X9_scanAt_96 : decode prog_11_method_6_code 96 = .ok (.ireturn, 1) := by decide +kernel
theorem d_X9_scan_0 : decode prog_11_method_5_code 0 = .ok (.aload_n 0, 1) := by decide +kernel
theorem d_X9_scan_1 : decode prog_11_method_5_code 1 = .ok (.iconst 0, 1) := by decide +kernel
theorem d_X9_scan_2 : decode prog_11_method_5_code 2 = .ok (.putfield 34, 3) := by decide +kernel
theorem d_X9_scan_5 : decode prog_11_method_5_code 5 = .ok (.iconst 0, 1) := by decide +kernel
theorem d_X9_scan_6 : decode prog_11_method_5_code 6 = .ok (.istore_n 1, 1) := by decide +kernel
theorem d_X9_scan_7 : decode prog_11_method_5_code 7 = .ok (.iload_n 1, 1) := by decide +kernel
theorem d_X9_scan_8 : decode prog_11_method_5_code 8 = .ok (.aload_n 0, 1) := by decide +kernel
theorem d_X9_scan_9 : decode prog_11_method_5_code 9 = .ok (.getfield 26, 3) := by decide +kernel
theorem d_X9_scan_12 : decode prog_11_method_5_code 12 = .ok (.if_icmp .ge 18, 3) := by decide +kernel
theorem d_X9_scan_15 : decode prog_11_method_5_code 15 = .ok (.iload_n 1, 1) := by decide +kernel
theorem d_X9_scan_16 : decode prog_11_method_5_code 16 = .ok (.aload_n 0, 1) := by decide +kernel
theorem d_X9_scan_17 : decode prog_11_method_5_code 17 = .ok (.iload_n 1, 1) := by decide +kernel
theorem d_X9_scan_18 : decode prog_11_method_5_code 18 = .ok (.invokevirtual 37, 3) := by decide +kernel
theorem d_X9_scan_21 : decode prog_11_method_5_code 21 = .ok (.iconst 1, 1) := by decide +kernel
theorem d_X9_scan_22 : decode prog_11_method_5_code 22 = .ok (.invokestatic 41, 3) := by decide +kernel
theorem d_X9_scan_25 : decode prog_11_method_5_code 25 = .ok (.iadd, 1) := by decide +kernel
theorem d_X9_scan_26 : decode prog_11_method_5_code 26 = .ok (.istore_n 1, 1) := by decide +kernel
theorem d_X9_scan_27 : decode prog_11_method_5_code 27 = .ok (.goto (-20), 3) := by decide +kernel
theorem d_X9_scan_30 : decode prog_11_method_5_code 30 = .ok (.aload_n 0, 1) := by decide +kernel
theorem d_X9_scan_31 : decode prog_11_method_5_code 31 = .ok (.iconst 1, 1) := by decide +kernel
theorem d_X9_scan_32 : decode prog_11_method_5_code 32 = .ok (.aload_n 0, 1) := by decide +kernel
theorem d_X9_scan_33 : decode prog_11_method_5_code 33 = .ok (.getfield 26, 3) := by decide +kernel
theorem d_X9_scan_36 : decode prog_11_method_5_code 36 = .ok (.lconst 0, 1) := by decide +kernel
theorem d_X9_scan_37 : decode prog_11_method_5_code 37 = .ok (.invokevirtual 47, 3) := by decide +kernel
theorem d_X9_scan_40 : decode prog_11_method_5_code 40 = .ok (.aload_n 0, 1) := by decide +kernel
theorem d_X9_scan_41 : decode prog_11_method_5_code 41 = .ok (.iconst (-1), 1) := by decide +kernel
theorem d_X9_scan_42 : decode prog_11_method_5_code 42 = .ok (.putfield 51, 3) := by decide +kernel
theorem d_X9_scan_45 : decode prog_11_method_5_code 45 = .ok (.aload_n 0, 1) := by decide +kernel
theorem d_X9_scan_46 : decode prog_11_method_5_code 46 = .ok (.invokevirtual 54, 3) := by decide +kernel
theorem d_X9_scan_49 : decode prog_11_method_5_code 49 = .ok (.return_, 1) := by decide +kernel
theorem d_X6_readText_0 : decode prog_8_method_2_code 0 = .ok (.aload_n 0, 1) := by decide +kernel
theorem d_X6_readText_1 : decode prog_8_method_2_code 1 = .ok (.getfield 32, 3) := by decide +kernel
theorem d_X6_readText_4 : decode prog_8_method_2_code 4 = .ok (.invokevirtual 40, 3) := by decide +kernel
theorem d_X6_readText_7 : decode prog_8_method_2_code 7 = .ok (.aload_n 0, 1) := by decide +kernel
theorem d_X6_readText_8 : decode prog_8_method_2_code 8 = .ok (.iconst 0, 1) := by decide +kernel
theorem d_X6_readText_9 : decode prog_8_method_2_code 9 = .ok (.putfield 43, 3) := by decide +kernel
theorem d_X6_readText_12 : decode prog_8_method_2_code 12 = .ok (.aload_n 0, 1) := by decide +kernel
theorem d_X6_readText_13 : decode prog_8_method_2_code 13 = .ok (.iconst 0, 1) := by decide +kernel
theorem d_X6_readText_14 : decode prog_8_method_2_code 14 = .ok (.putfield 47, 3) := by decide +kernel
theorem d_X6_readText_17 : decode prog_8_method_2_code 17 = .ok (.aload_n 0, 1) := by decide +kernel
theorem d_X6_readText_18 : decode prog_8_method_2_code 18 = .ok (.iconst (-1), 1) := by decide +kernel
theorem d_X6_readText_19 : decode prog_8_method_2_code 19 = .ok (.putfield 36, 3) := by decide +kernel
theorem d_X6_readText_22 : decode prog_8_method_2_code 22 = .ok (.aload_n 0, 1) := by decide +kernel
theorem d_X6_readText_23 : decode prog_8_method_2_code 23 = .ok (.getfield 25, 3) := by decide +kernel
theorem d_X6_readText_26 : decode prog_8_method_2_code 26 = .ok (.invokevirtual 50, 3) := by decide +kernel
theorem d_X6_readText_29 : decode prog_8_method_2_code 29 = .ok (.iconst 0, 1) := by decide +kernel
theorem d_X6_readText_30 : decode prog_8_method_2_code 30 = .ok (.istore_n 1, 1) := by decide +kernel
theorem d_X6_readText_31 : decode prog_8_method_2_code 31 = .ok (.iload_n 1, 1) := by decide +kernel
theorem d_X6_readText_32 : decode prog_8_method_2_code 32 = .ok (.sipush 4000, 3) := by decide +kernel
theorem d_X6_readText_35 : decode prog_8_method_2_code 35 = .ok (.if_icmp .ge 82, 3) := by decide +kernel
theorem d_X6_readText_38 : decode prog_8_method_2_code 38 = .ok (.aload_n 0, 1) := by decide +kernel
theorem d_X6_readText_39 : decode prog_8_method_2_code 39 = .ok (.getfield 47, 3) := by decide +kernel
theorem d_X6_readText_42 : decode prog_8_method_2_code 42 = .ok (.ifCond .ne 75, 3) := by decide +kernel
theorem d_X6_readText_45 : decode prog_8_method_2_code 45 = .ok (.aload_n 0, 1) := by decide +kernel
theorem d_X6_readText_46 : decode prog_8_method_2_code 46 = .ok (.getfield 25, 3) := by decide +kernel
theorem d_X6_readText_49 : decode prog_8_method_2_code 49 = .ok (.getfield 53, 3) := by decide +kernel
theorem d_X6_readText_52 : decode prog_8_method_2_code 52 = .ok (.iconst 1, 1) := by decide +kernel
theorem d_X6_readText_53 : decode prog_8_method_2_code 53 = .ok (.if_icmp .eq 64, 3) := by decide +kernel
theorem d_X6_readText_56 : decode prog_8_method_2_code 56 = .ok (.aload_n 0, 1) := by decide +kernel
theorem d_X6_readText_57 : decode prog_8_method_2_code 57 = .ok (.ldc2_w 56, 3) := by decide +kernel
theorem d_X6_readText_60 : decode prog_8_method_2_code 60 = .ok (.invokevirtual 58, 3) := by decide +kernel
theorem d_X6_readText_63 : decode prog_8_method_2_code 63 = .ok (.ifCond .eq 10, 3) := by decide +kernel
theorem d_X6_readText_66 : decode prog_8_method_2_code 66 = .ok (.aload_n 0, 1) := by decide +kernel
theorem d_X6_readText_67 : decode prog_8_method_2_code 67 = .ok (.invokevirtual 62, 3) := by decide +kernel
theorem d_X6_readText_70 : decode prog_8_method_2_code 70 = .ok (.goto 41, 3) := by decide +kernel
theorem d_X6_readText_73 : decode prog_8_method_2_code 73 = .ok (.aload_n 0, 1) := by decide +kernel
theorem d_X6_readText_74 : decode prog_8_method_2_code 74 = .ok (.ldc2_w 65, 3) := by decide +kernel
theorem d_X6_readText_77 : decode prog_8_method_2_code 77 = .ok (.invokevirtual 58, 3) := by decide +kernel
theorem d_X6_readText_80 : decode prog_8_method_2_code 80 = .ok (.ifCond .eq 10, 3) := by decide +kernel
theorem d_X6_readText_83 : decode prog_8_method_2_code 83 = .ok (.aload_n 0, 1) := by decide +kernel
theorem d_X6_readText_84 : decode prog_8_method_2_code 84 = .ok (.invokevirtual 67, 3) := by decide +kernel
theorem d_X6_readText_87 : decode prog_8_method_2_code 87 = .ok (.goto 24, 3) := by decide +kernel
theorem d_X6_readText_90 : decode prog_8_method_2_code 90 = .ok (.aload_n 0, 1) := by decide +kernel
theorem d_X6_readText_91 : decode prog_8_method_2_code 91 = .ok (.ldc2_w 70, 3) := by decide +kernel
theorem d_X6_readText_94 : decode prog_8_method_2_code 94 = .ok (.invokevirtual 58, 3) := by decide +kernel
theorem d_X6_readText_97 : decode prog_8_method_2_code 97 = .ok (.ifCond .eq 10, 3) := by decide +kernel
theorem d_X6_readText_100 : decode prog_8_method_2_code 100 = .ok (.aload_n 0, 1) := by decide +kernel
theorem d_X6_readText_101 : decode prog_8_method_2_code 101 = .ok (.invokevirtual 72, 3) := by decide +kernel
theorem d_X6_readText_104 : decode prog_8_method_2_code 104 = .ok (.goto 7, 3) := by decide +kernel
theorem d_X6_readText_107 : decode prog_8_method_2_code 107 = .ok (.aload_n 0, 1) := by decide +kernel
theorem d_X6_readText_108 : decode prog_8_method_2_code 108 = .ok (.invokevirtual 75, 3) := by decide +kernel
theorem d_X6_readText_111 : decode prog_8_method_2_code 111 = .ok (.iinc 1 1, 3) := by decide +kernel
theorem d_X6_readText_114 : decode prog_8_method_2_code 114 = .ok (.goto (-83), 3) := by decide +kernel
theorem d_X6_readText_117 : decode prog_8_method_2_code 117 = .ok (.aload_n 0, 1) := by decide +kernel
theorem d_X6_readText_118 : decode prog_8_method_2_code 118 = .ok (.getfield 25, 3) := by decide +kernel
theorem d_X6_readText_121 : decode prog_8_method_2_code 121 = .ok (.iconst 0, 1) := by decide +kernel
theorem d_X6_readText_122 : decode prog_8_method_2_code 122 = .ok (.putfield 78, 3) := by decide +kernel
theorem d_X6_readText_125 : decode prog_8_method_2_code 125 = .ok (.aload_n 0, 1) := by decide +kernel
theorem d_X6_readText_126 : decode prog_8_method_2_code 126 = .ok (.getfield 47, 3) := by decide +kernel
theorem d_X6_readText_129 : decode prog_8_method_2_code 129 = .ok (.ireturn, 1) := by decide +kernel
theorem d_X8_agentsIn_0 : decode prog_10_method_12_code 0 = .ok (.aload_n 0, 1) := by decide +kernel
theorem d_X8_agentsIn_1 : decode prog_10_method_12_code 1 = .ok (.iload_n 1, 1) := by decide +kernel
theorem d_X8_agentsIn_2 : decode prog_10_method_12_code 2 = .ok (.invokevirtual 51, 3) := by decide +kernel
theorem d_X8_agentsIn_5 : decode prog_10_method_12_code 5 = .ok (.ifCond .eq 12, 3) := by decide +kernel
theorem d_X8_agentsIn_8 : decode prog_10_method_12_code 8 = .ok (.aload_n 0, 1) := by decide +kernel
theorem d_X8_agentsIn_9 : decode prog_10_method_12_code 9 = .ok (.getfield 18, 3) := by decide +kernel
theorem d_X8_agentsIn_12 : decode prog_10_method_12_code 12 = .ok (.iload_n 1, 1) := by decide +kernel
theorem d_X8_agentsIn_13 : decode prog_10_method_12_code 13 = .ok (.iaload, 1) := by decide +kernel
theorem d_X8_agentsIn_14 : decode prog_10_method_12_code 14 = .ok (.goto 4, 3) := by decide +kernel
theorem d_X8_agentsIn_17 : decode prog_10_method_12_code 17 = .ok (.iconst 0, 1) := by decide +kernel
theorem d_X8_agentsIn_18 : decode prog_10_method_12_code 18 = .ok (.ireturn, 1) := by decide +kernel
theorem d_X11_rule_0 : decode prog_1_method_8_code 0 = .ok (.aload_n 0, 1) := by decide +kernel
theorem d_X11_rule_1 : decode prog_1_method_8_code 1 = .ok (.getfield 61, 3) := by decide +kernel
theorem d_X11_rule_4 : decode prog_1_method_8_code 4 = .ok (.getfield 108, 3) := by decide +kernel
theorem d_X11_rule_7 : decode prog_1_method_8_code 7 = .ok (.iload_n 1, 1) := by decide +kernel
theorem d_X11_rule_8 : decode prog_1_method_8_code 8 = .ok (.invokevirtual 150, 3) := by decide +kernel
theorem d_X11_rule_11 : decode prog_1_method_8_code 11 = .ok (.ifCond .eq 17, 3) := by decide +kernel
theorem d_X11_rule_14 : decode prog_1_method_8_code 14 = .ok (.aload_n 0, 1) := by decide +kernel
theorem d_X11_rule_15 : decode prog_1_method_8_code 15 = .ok (.getfield 61, 3) := by decide +kernel
theorem d_X11_rule_18 : decode prog_1_method_8_code 18 = .ok (.getfield 108, 3) := by decide +kernel
theorem d_X11_rule_21 : decode prog_1_method_8_code 21 = .ok (.iload_n 2, 1) := by decide +kernel
theorem d_X11_rule_22 : decode prog_1_method_8_code 22 = .ok (.invokevirtual 150, 3) := by decide +kernel
theorem d_X11_rule_25 : decode prog_1_method_8_code 25 = .ok (.ifCond .ne 7, 3) := by decide +kernel
theorem d_X11_rule_28 : decode prog_1_method_8_code 28 = .ok (.sipush (-1001), 3) := by decide +kernel
theorem d_X11_rule_31 : decode prog_1_method_8_code 31 = .ok (.ireturn, 1) := by decide +kernel
theorem d_X11_rule_32 : decode prog_1_method_8_code 32 = .ok (.aload_n 0, 1) := by decide +kernel
theorem d_X11_rule_33 : decode prog_1_method_8_code 33 = .ok (.getfield 61, 3) := by decide +kernel
theorem d_X11_rule_36 : decode prog_1_method_8_code 36 = .ok (.getfield 115, 3) := by decide +kernel
theorem d_X11_rule_39 : decode prog_1_method_8_code 39 = .ok (.iload_n 1, 1) := by decide +kernel
theorem d_X11_rule_40 : decode prog_1_method_8_code 40 = .ok (.iload_n 2, 1) := by decide +kernel
theorem d_X11_rule_41 : decode prog_1_method_8_code 41 = .ok (.invokevirtual 168, 3) := by decide +kernel
theorem d_X11_rule_44 : decode prog_1_method_8_code 44 = .ok (.istore_n 3, 1) := by decide +kernel
theorem d_X11_rule_45 : decode prog_1_method_8_code 45 = .ok (.iload_n 3, 1) := by decide +kernel
theorem d_X11_rule_46 : decode prog_1_method_8_code 46 = .ok (.iconst (-1), 1) := by decide +kernel
theorem d_X11_rule_47 : decode prog_1_method_8_code 47 = .ok (.if_icmp .ne 7, 3) := by decide +kernel
theorem d_X11_rule_50 : decode prog_1_method_8_code 50 = .ok (.iconst (-1), 1) := by decide +kernel
theorem d_X11_rule_51 : decode prog_1_method_8_code 51 = .ok (.goto 14, 3) := by decide +kernel
theorem d_X11_rule_54 : decode prog_1_method_8_code 54 = .ok (.aload_n 0, 1) := by decide +kernel
theorem d_X11_rule_55 : decode prog_1_method_8_code 55 = .ok (.getfield 61, 3) := by decide +kernel
theorem d_X11_rule_58 : decode prog_1_method_8_code 58 = .ok (.getfield 115, 3) := by decide +kernel
theorem d_X11_rule_61 : decode prog_1_method_8_code 61 = .ok (.iload_n 3, 1) := by decide +kernel
theorem d_X11_rule_62 : decode prog_1_method_8_code 62 = .ok (.invokevirtual 171, 3) := by decide +kernel
theorem d_X11_rule_65 : decode prog_1_method_8_code 65 = .ok (.ireturn, 1) := by decide +kernel
theorem d_X2_noteAgents_0 : decode prog_4_method_4_code 0 = .ok (.aload_n 0, 1) := by decide +kernel
theorem d_X2_noteAgents_1 : decode prog_4_method_4_code 1 = .ok (.aload_n 0, 1) := by decide +kernel
theorem d_X2_noteAgents_2 : decode prog_4_method_4_code 2 = .ok (.getfield 19, 3) := by decide +kernel
theorem d_X2_noteAgents_5 : decode prog_4_method_4_code 5 = .ok (.iload_n 1, 1) := by decide +kernel
theorem d_X2_noteAgents_6 : decode prog_4_method_4_code 6 = .ok (.invokestatic 31, 3) := by decide +kernel
theorem d_X2_noteAgents_9 : decode prog_4_method_4_code 9 = .ok (.putfield 19, 3) := by decide +kernel
theorem d_X2_noteAgents_12 : decode prog_4_method_4_code 12 = .ok (.return_, 1) := by decide +kernel
theorem d_X2_noteStep_0 : decode prog_4_method_3_code 0 = .ok (.aload_n 0, 1) := by decide +kernel
theorem d_X2_noteStep_1 : decode prog_4_method_3_code 1 = .ok (.getfield 11, 3) := by decide +kernel
theorem d_X2_noteStep_4 : decode prog_4_method_3_code 4 = .ok (.aload_n 0, 1) := by decide +kernel
theorem d_X2_noteStep_5 : decode prog_4_method_3_code 5 = .ok (.getfield 15, 3) := by decide +kernel
theorem d_X2_noteStep_8 : decode prog_4_method_3_code 8 = .ok (.bipush 50, 2) := by decide +kernel
theorem d_X2_noteStep_10 : decode prog_4_method_3_code 10 = .ok (.invokestatic 25, 3) := by decide +kernel
theorem d_X2_noteStep_13 : decode prog_4_method_3_code 13 = .ok (.bipush 16, 2) := by decide +kernel
theorem d_X2_noteStep_15 : decode prog_4_method_3_code 15 = .ok (.iload_n 1, 1) := by decide +kernel
theorem d_X2_noteStep_16 : decode prog_4_method_3_code 16 = .ok (.imul, 1) := by decide +kernel
theorem d_X2_noteStep_17 : decode prog_4_method_3_code 17 = .ok (.iload_n 2, 1) := by decide +kernel
theorem d_X2_noteStep_18 : decode prog_4_method_3_code 18 = .ok (.iadd, 1) := by decide +kernel
theorem d_X2_noteStep_19 : decode prog_4_method_3_code 19 = .ok (.iastore, 1) := by decide +kernel
theorem d_X2_noteStep_20 : decode prog_4_method_3_code 20 = .ok (.aload_n 0, 1) := by decide +kernel
theorem d_X2_noteStep_21 : decode prog_4_method_3_code 21 = .ok (.dup, 1) := by decide +kernel
theorem d_X2_noteStep_22 : decode prog_4_method_3_code 22 = .ok (.getfield 15, 3) := by decide +kernel
theorem d_X2_noteStep_25 : decode prog_4_method_3_code 25 = .ok (.iconst 1, 1) := by decide +kernel
theorem d_X2_noteStep_26 : decode prog_4_method_3_code 26 = .ok (.iadd, 1) := by decide +kernel
theorem d_X2_noteStep_27 : decode prog_4_method_3_code 27 = .ok (.putfield 15, 3) := by decide +kernel
theorem d_X2_noteStep_30 : decode prog_4_method_3_code 30 = .ok (.return_, 1) := by decide +kernel
theorem d_X4_remove_0 : decode prog_6_method_9_code 0 = .ok (.aload_n 0, 1) := by decide +kernel
theorem d_X4_remove_1 : decode prog_6_method_9_code 1 = .ok (.iload_n 1, 1) := by decide +kernel
theorem d_X4_remove_2 : decode prog_6_method_9_code 2 = .ok (.invokevirtual 56, 3) := by decide +kernel
theorem d_X4_remove_5 : decode prog_6_method_9_code 5 = .ok (.ifCond .eq 20, 3) := by decide +kernel
theorem d_X4_remove_8 : decode prog_6_method_9_code 8 = .ok (.aload_n 0, 1) := by decide +kernel
theorem d_X4_remove_9 : decode prog_6_method_9_code 9 = .ok (.getfield 9, 3) := by decide +kernel
theorem d_X4_remove_12 : decode prog_6_method_9_code 12 = .ok (.iload_n 1, 1) := by decide +kernel
theorem d_X4_remove_13 : decode prog_6_method_9_code 13 = .ok (.iconst (-1), 1) := by decide +kernel
theorem d_X4_remove_14 : decode prog_6_method_9_code 14 = .ok (.iastore, 1) := by decide +kernel
theorem d_X4_remove_15 : decode prog_6_method_9_code 15 = .ok (.aload_n 0, 1) := by decide +kernel
theorem d_X4_remove_16 : decode prog_6_method_9_code 16 = .ok (.dup, 1) := by decide +kernel
theorem d_X4_remove_17 : decode prog_6_method_9_code 17 = .ok (.getfield 27, 3) := by decide +kernel
theorem d_X4_remove_20 : decode prog_6_method_9_code 20 = .ok (.iconst 1, 1) := by decide +kernel
theorem d_X4_remove_21 : decode prog_6_method_9_code 21 = .ok (.isub, 1) := by decide +kernel
theorem d_X4_remove_22 : decode prog_6_method_9_code 22 = .ok (.putfield 27, 3) := by decide +kernel
theorem d_X4_remove_25 : decode prog_6_method_9_code 25 = .ok (.aload_n 0, 1) := by decide +kernel
theorem d_X4_remove_26 : decode prog_6_method_9_code 26 = .ok (.getfield 37, 3) := by decide +kernel
theorem d_X4_remove_29 : decode prog_6_method_9_code 29 = .ok (.sipush 400, 3) := by decide +kernel
theorem d_X4_remove_32 : decode prog_6_method_9_code 32 = .ok (.invokestatic 60, 3) := by decide +kernel
theorem d_X4_remove_35 : decode prog_6_method_9_code 35 = .ok (.istore_n 2, 1) := by decide +kernel
theorem d_X4_remove_36 : decode prog_6_method_9_code 36 = .ok (.iload_n 2, 1) := by decide +kernel
theorem d_X4_remove_37 : decode prog_6_method_9_code 37 = .ok (.ifCond .le 28, 3) := by decide +kernel
theorem d_X4_remove_40 : decode prog_6_method_9_code 40 = .ok (.aload_n 0, 1) := by decide +kernel
theorem d_X4_remove_41 : decode prog_6_method_9_code 41 = .ok (.getfield 9, 3) := by decide +kernel
theorem d_X4_remove_44 : decode prog_6_method_9_code 44 = .ok (.iload_n 2, 1) := by decide +kernel
theorem d_X4_remove_45 : decode prog_6_method_9_code 45 = .ok (.iconst 1, 1) := by decide +kernel
theorem d_X4_remove_46 : decode prog_6_method_9_code 46 = .ok (.isub, 1) := by decide +kernel
theorem d_X4_remove_47 : decode prog_6_method_9_code 47 = .ok (.iaload, 1) := by decide +kernel
theorem d_X4_remove_48 : decode prog_6_method_9_code 48 = .ok (.iconst (-1), 1) := by decide +kernel
theorem d_X4_remove_49 : decode prog_6_method_9_code 49 = .ok (.if_icmp .ne 16, 3) := by decide +kernel
theorem d_X4_remove_52 : decode prog_6_method_9_code 52 = .ok (.aload_n 0, 1) := by decide +kernel
theorem d_X4_remove_53 : decode prog_6_method_9_code 53 = .ok (.iload_n 2, 1) := by decide +kernel
theorem d_X4_remove_54 : decode prog_6_method_9_code 54 = .ok (.iconst 1, 1) := by decide +kernel
theorem d_X4_remove_55 : decode prog_6_method_9_code 55 = .ok (.isub, 1) := by decide +kernel
theorem d_X4_remove_56 : decode prog_6_method_9_code 56 = .ok (.putfield 37, 3) := by decide +kernel
theorem d_X4_remove_59 : decode prog_6_method_9_code 59 = .ok (.iinc 2 (-1), 3) := by decide +kernel
theorem d_X4_remove_62 : decode prog_6_method_9_code 62 = .ok (.goto (-26), 3) := by decide +kernel
theorem d_X4_remove_65 : decode prog_6_method_9_code 65 = .ok (.return_, 1) := by decide +kernel
theorem d_X7_codeInNet_0 : decode prog_9_method_12_code 0 = .ok (.iload_n 1, 1) := by decide +kernel
theorem d_X7_codeInNet_1 : decode prog_9_method_12_code 1 = .ok (.invokestatic 110, 3) := by decide +kernel
theorem d_X7_codeInNet_4 : decode prog_9_method_12_code 4 = .ok (.istore_n 2, 1) := by decide +kernel
theorem d_X7_codeInNet_5 : decode prog_9_method_12_code 5 = .ok (.iload_n 2, 1) := by decide +kernel
theorem d_X7_codeInNet_6 : decode prog_9_method_12_code 6 = .ok (.ifCond .lt 25, 3) := by decide +kernel
theorem d_X7_codeInNet_9 : decode prog_9_method_12_code 9 = .ok (.iload_n 2, 1) := by decide +kernel
theorem d_X7_codeInNet_10 : decode prog_9_method_12_code 10 = .ok (.bipush 12, 2) := by decide +kernel
theorem d_X7_codeInNet_12 : decode prog_9_method_12_code 12 = .ok (.if_icmp .ge 19, 3) := by decide +kernel
theorem d_X7_codeInNet_15 : decode prog_9_method_12_code 15 = .ok (.aload_n 0, 1) := by decide +kernel
theorem d_X7_codeInNet_16 : decode prog_9_method_12_code 16 = .ok (.getfield 22, 3) := by decide +kernel
theorem d_X7_codeInNet_19 : decode prog_9_method_12_code 19 = .ok (.iload_n 2, 1) := by decide +kernel
theorem d_X7_codeInNet_20 : decode prog_9_method_12_code 20 = .ok (.iaload, 1) := by decide +kernel
theorem d_X7_codeInNet_21 : decode prog_9_method_12_code 21 = .ok (.iload_n 1, 1) := by decide +kernel
theorem d_X7_codeInNet_22 : decode prog_9_method_12_code 22 = .ok (.invokestatic 107, 3) := by decide +kernel
theorem d_X7_codeInNet_25 : decode prog_9_method_12_code 25 = .ok (.invokestatic 93, 3) := by decide +kernel
theorem d_X7_codeInNet_28 : decode prog_9_method_12_code 28 = .ok (.goto 4, 3) := by decide +kernel
theorem d_X7_codeInNet_31 : decode prog_9_method_12_code 31 = .ok (.iconst (-1), 1) := by decide +kernel
theorem d_X7_codeInNet_32 : decode prog_9_method_12_code 32 = .ok (.ireturn, 1) := by decide +kernel
theorem d_X7_pass_0 : decode prog_9_method_11_code 0 = .ok (.iload_n 1, 1) := by decide +kernel
theorem d_X7_pass_1 : decode prog_9_method_11_code 1 = .ok (.invokestatic 141, 3) := by decide +kernel
theorem d_X7_pass_4 : decode prog_9_method_11_code 4 = .ok (.istore_n 2, 1) := by decide +kernel
theorem d_X7_pass_5 : decode prog_9_method_11_code 5 = .ok (.iload_n 2, 1) := by decide +kernel
theorem d_X7_pass_6 : decode prog_9_method_11_code 6 = .ok (.ifCond .lt 16, 3) := by decide +kernel
theorem d_X7_pass_9 : decode prog_9_method_11_code 9 = .ok (.iload_n 2, 1) := by decide +kernel
theorem d_X7_pass_10 : decode prog_9_method_11_code 10 = .ok (.bipush 8, 2) := by decide +kernel
theorem d_X7_pass_12 : decode prog_9_method_11_code 12 = .ok (.if_icmp .ge 10, 3) := by decide +kernel
theorem d_X7_pass_15 : decode prog_9_method_11_code 15 = .ok (.aload_n 0, 1) := by decide +kernel
theorem d_X7_pass_16 : decode prog_9_method_11_code 16 = .ok (.getfield 18, 3) := by decide +kernel
theorem d_X7_pass_19 : decode prog_9_method_11_code 19 = .ok (.iload_n 2, 1) := by decide +kernel
theorem d_X7_pass_20 : decode prog_9_method_11_code 20 = .ok (.iconst 1, 1) := by decide +kernel
theorem d_X7_pass_21 : decode prog_9_method_11_code 21 = .ok (.bastore, 1) := by decide +kernel
theorem d_X7_pass_22 : decode prog_9_method_11_code 22 = .ok (.return_, 1) := by decide +kernel
theorem d_X8_wireOf_0 : decode prog_10_method_10_code 0 = .ok (.aload_n 0, 1) := by decide +kernel
theorem d_X8_wireOf_1 : decode prog_10_method_10_code 1 = .ok (.iload_n 1, 1) := by decide +kernel
theorem d_X8_wireOf_2 : decode prog_10_method_10_code 2 = .ok (.invokevirtual 51, 3) := by decide +kernel
theorem d_X8_wireOf_5 : decode prog_10_method_10_code 5 = .ok (.ifCond .eq 24, 3) := by decide +kernel
theorem d_X8_wireOf_8 : decode prog_10_method_10_code 8 = .ok (.iload_n 2, 1) := by decide +kernel
theorem d_X8_wireOf_9 : decode prog_10_method_10_code 9 = .ok (.bipush 96, 2) := by decide +kernel
theorem d_X8_wireOf_11 : decode prog_10_method_10_code 11 = .ok (.invokestatic 43, 3) := by decide +kernel
theorem d_X8_wireOf_14 : decode prog_10_method_10_code 14 = .ok (.ifCond .eq 15, 3) := by decide +kernel
theorem d_X8_wireOf_17 : decode prog_10_method_10_code 17 = .ok (.aload_n 0, 1) := by decide +kernel
theorem d_X8_wireOf_18 : decode prog_10_method_10_code 18 = .ok (.getfield 27, 3) := by decide +kernel
theorem d_X8_wireOf_21 : decode prog_10_method_10_code 21 = .ok (.iload_n 1, 1) := by decide +kernel
theorem d_X8_wireOf_22 : decode prog_10_method_10_code 22 = .ok (.bipush 96, 2) := by decide +kernel
theorem d_X8_wireOf_24 : decode prog_10_method_10_code 24 = .ok (.imul, 1) := by decide +kernel
theorem d_X8_wireOf_25 : decode prog_10_method_10_code 25 = .ok (.iload_n 2, 1) := by decide +kernel
theorem d_X8_wireOf_26 : decode prog_10_method_10_code 26 = .ok (.iadd, 1) := by decide +kernel
theorem d_X8_wireOf_27 : decode prog_10_method_10_code 27 = .ok (.iaload, 1) := by decide +kernel
theorem d_X8_wireOf_28 : decode prog_10_method_10_code 28 = .ok (.ireturn, 1) := by decide +kernel
theorem d_X8_wireOf_29 : decode prog_10_method_10_code 29 = .ok (.aload_n 0, 1) := by decide +kernel
theorem d_X8_wireOf_30 : decode prog_10_method_10_code 30 = .ok (.iload_n 1, 1) := by decide +kernel
theorem d_X8_wireOf_31 : decode prog_10_method_10_code 31 = .ok (.invokevirtual 51, 3) := by decide +kernel
theorem d_X8_wireOf_34 : decode prog_10_method_10_code 34 = .ok (.ifCond .eq 32, 3) := by decide +kernel
theorem d_X8_wireOf_37 : decode prog_10_method_10_code 37 = .ok (.iload_n 2, 1) := by decide +kernel
theorem d_X8_wireOf_38 : decode prog_10_method_10_code 38 = .ok (.invokestatic 55, 3) := by decide +kernel
theorem d_X8_wireOf_41 : decode prog_10_method_10_code 41 = .ok (.bipush 8, 2) := by decide +kernel
theorem d_X8_wireOf_43 : decode prog_10_method_10_code 43 = .ok (.invokestatic 43, 3) := by decide +kernel
theorem d_X8_wireOf_46 : decode prog_10_method_10_code 46 = .ok (.ifCond .eq 20, 3) := by decide +kernel
theorem d_X8_wireOf_49 : decode prog_10_method_10_code 49 = .ok (.aload_n 0, 1) := by decide +kernel
theorem d_X8_wireOf_50 : decode prog_10_method_10_code 50 = .ok (.getfield 30, 3) := by decide +kernel
theorem d_X8_wireOf_53 : decode prog_10_method_10_code 53 = .ok (.iload_n 1, 1) := by decide +kernel
theorem d_X8_wireOf_54 : decode prog_10_method_10_code 54 = .ok (.bipush 8, 2) := by decide +kernel
theorem d_X8_wireOf_56 : decode prog_10_method_10_code 56 = .ok (.imul, 1) := by decide +kernel
theorem d_X8_wireOf_57 : decode prog_10_method_10_code 57 = .ok (.iload_n 2, 1) := by decide +kernel
theorem d_X8_wireOf_58 : decode prog_10_method_10_code 58 = .ok (.invokestatic 55, 3) := by decide +kernel
theorem d_X8_wireOf_61 : decode prog_10_method_10_code 61 = .ok (.iadd, 1) := by decide +kernel
theorem d_X8_wireOf_62 : decode prog_10_method_10_code 62 = .ok (.iaload, 1) := by decide +kernel
theorem d_X8_wireOf_63 : decode prog_10_method_10_code 63 = .ok (.goto 4, 3) := by decide +kernel
theorem d_X8_wireOf_66 : decode prog_10_method_10_code 66 = .ok (.iconst (-1), 1) := by decide +kernel
theorem d_X8_wireOf_67 : decode prog_10_method_10_code 67 = .ok (.ireturn, 1) := by decide +kernel
theorem d_X7_follow_0 : decode prog_9_method_10_code 0 = .ok (.iload_n 3, 1) := by decide +kernel
theorem d_X7_follow_1 : decode prog_9_method_10_code 1 = .ok (.istore 4, 2) := by decide +kernel
theorem d_X7_follow_3 : decode prog_9_method_10_code 3 = .ok (.iconst 0, 1) := by decide +kernel
theorem d_X7_follow_4 : decode prog_9_method_10_code 4 = .ok (.istore 5, 2) := by decide +kernel
theorem d_X7_follow_6 : decode prog_9_method_10_code 6 = .ok (.iload 5, 2) := by decide +kernel
theorem d_X7_follow_8 : decode prog_9_method_10_code 8 = .ok (.bipush 8, 2) := by decide +kernel
theorem d_X7_follow_10 : decode prog_9_method_10_code 10 = .ok (.if_icmp .gt 94, 3) := by decide +kernel
theorem d_X7_follow_13 : decode prog_9_method_10_code 13 = .ok (.aload_n 0, 1) := by decide +kernel
theorem d_X7_follow_14 : decode prog_9_method_10_code 14 = .ok (.iload 4, 2) := by decide +kernel
theorem d_X7_follow_16 : decode prog_9_method_10_code 16 = .ok (.invokevirtual 133, 3) := by decide +kernel
theorem d_X7_follow_19 : decode prog_9_method_10_code 19 = .ok (.aload_n 1, 1) := by decide +kernel
theorem d_X7_follow_20 : decode prog_9_method_10_code 20 = .ok (.iload_n 2, 1) := by decide +kernel
theorem d_X7_follow_21 : decode prog_9_method_10_code 21 = .ok (.iload 4, 2) := by decide +kernel
theorem d_X7_follow_23 : decode prog_9_method_10_code 23 = .ok (.invokevirtual 136, 3) := by decide +kernel
theorem d_X7_follow_26 : decode prog_9_method_10_code 26 = .ok (.istore 6, 2) := by decide +kernel
theorem d_X7_follow_28 : decode prog_9_method_10_code 28 = .ok (.iload 6, 2) := by decide +kernel
theorem d_X7_follow_30 : decode prog_9_method_10_code 30 = .ok (.ifCond .lt 10, 3) := by decide +kernel
theorem d_X7_follow_33 : decode prog_9_method_10_code 33 = .ok (.aload_n 0, 1) := by decide +kernel
theorem d_X7_follow_34 : decode prog_9_method_10_code 34 = .ok (.iload 6, 2) := by decide +kernel
theorem d_X7_follow_36 : decode prog_9_method_10_code 36 = .ok (.invokevirtual 138, 3) := by decide +kernel
theorem d_X7_follow_39 : decode prog_9_method_10_code 39 = .ok (.ireturn, 1) := by decide +kernel
theorem d_X7_follow_40 : decode prog_9_method_10_code 40 = .ok (.aload_n 0, 1) := by decide +kernel
theorem d_X7_follow_41 : decode prog_9_method_10_code 41 = .ok (.iload 6, 2) := by decide +kernel
theorem d_X7_follow_43 : decode prog_9_method_10_code 43 = .ok (.invokevirtual 133, 3) := by decide +kernel
theorem d_X7_follow_46 : decode prog_9_method_10_code 46 = .ok (.iload 6, 2) := by decide +kernel
theorem d_X7_follow_48 : decode prog_9_method_10_code 48 = .ok (.invokestatic 141, 3) := by decide +kernel
theorem d_X7_follow_51 : decode prog_9_method_10_code 51 = .ok (.istore 7, 2) := by decide +kernel
theorem d_X7_follow_53 : decode prog_9_method_10_code 53 = .ok (.iload 7, 2) := by decide +kernel
theorem d_X7_follow_55 : decode prog_9_method_10_code 55 = .ok (.ifCond .lt 10, 3) := by decide +kernel
theorem d_X7_follow_58 : decode prog_9_method_10_code 58 = .ok (.iload 7, 2) := by decide +kernel
theorem d_X7_follow_60 : decode prog_9_method_10_code 60 = .ok (.bipush 8, 2) := by decide +kernel
theorem d_X7_follow_62 : decode prog_9_method_10_code 62 = .ok (.if_icmp .lt 5, 3) := by decide +kernel
theorem d_X7_follow_65 : decode prog_9_method_10_code 65 = .ok (.iconst (-1), 1) := by decide +kernel
theorem d_X7_follow_66 : decode prog_9_method_10_code 66 = .ok (.ireturn, 1) := by decide +kernel
theorem d_X7_follow_67 : decode prog_9_method_10_code 67 = .ok (.aload_n 0, 1) := by decide +kernel
theorem d_X7_follow_68 : decode prog_9_method_10_code 68 = .ok (.getfield 15, 3) := by decide +kernel
theorem d_X7_follow_71 : decode prog_9_method_10_code 71 = .ok (.iload 7, 2) := by decide +kernel
theorem d_X7_follow_73 : decode prog_9_method_10_code 73 = .ok (.iaload, 1) := by decide +kernel
theorem d_X7_follow_74 : decode prog_9_method_10_code 74 = .ok (.iconst (-1), 1) := by decide +kernel
theorem d_X7_follow_75 : decode prog_9_method_10_code 75 = .ok (.if_icmp .ne 11, 3) := by decide +kernel
theorem d_X7_follow_78 : decode prog_9_method_10_code 78 = .ok (.aload_n 0, 1) := by decide +kernel
theorem d_X7_follow_79 : decode prog_9_method_10_code 79 = .ok (.getfield 9, 3) := by decide +kernel
theorem d_X7_follow_82 : decode prog_9_method_10_code 82 = .ok (.iload 7, 2) := by decide +kernel
theorem d_X7_follow_84 : decode prog_9_method_10_code 84 = .ok (.iaload, 1) := by decide +kernel
theorem d_X7_follow_85 : decode prog_9_method_10_code 85 = .ok (.ireturn, 1) := by decide +kernel
theorem d_X7_follow_86 : decode prog_9_method_10_code 86 = .ok (.aload_n 0, 1) := by decide +kernel
theorem d_X7_follow_87 : decode prog_9_method_10_code 87 = .ok (.getfield 15, 3) := by decide +kernel
theorem d_X7_follow_90 : decode prog_9_method_10_code 90 = .ok (.iload 7, 2) := by decide +kernel
theorem d_X7_follow_92 : decode prog_9_method_10_code 92 = .ok (.iaload, 1) := by decide +kernel
theorem d_X7_follow_93 : decode prog_9_method_10_code 93 = .ok (.invokestatic 130, 3) := by decide +kernel
theorem d_X7_follow_96 : decode prog_9_method_10_code 96 = .ok (.istore 4, 2) := by decide +kernel
theorem d_X7_follow_98 : decode prog_9_method_10_code 98 = .ok (.iinc 5 1, 3) := by decide +kernel
theorem d_X7_follow_101 : decode prog_9_method_10_code 101 = .ok (.goto (-95), 3) := by decide +kernel
theorem d_X7_follow_104 : decode prog_9_method_10_code 104 = .ok (.iconst (-1), 1) := by decide +kernel
theorem d_X7_follow_105 : decode prog_9_method_10_code 105 = .ok (.ireturn, 1) := by decide +kernel
theorem d_X7_countRings_0 : decode prog_9_method_9_code 0 = .ok (.iconst 0, 1) := by decide +kernel
theorem d_X7_countRings_1 : decode prog_9_method_9_code 1 = .ok (.istore_n 3, 1) := by decide +kernel
theorem d_X7_countRings_2 : decode prog_9_method_9_code 2 = .ok (.iconst 0, 1) := by decide +kernel
theorem d_X7_countRings_3 : decode prog_9_method_9_code 3 = .ok (.istore 4, 2) := by decide +kernel
theorem d_X7_countRings_5 : decode prog_9_method_9_code 5 = .ok (.iload 4, 2) := by decide +kernel
theorem d_X7_countRings_7 : decode prog_9_method_9_code 7 = .ok (.bipush 8, 2) := by decide +kernel
theorem d_X7_countRings_9 : decode prog_9_method_9_code 9 = .ok (.if_icmp .ge 34, 3) := by decide +kernel
theorem d_X7_countRings_12 : decode prog_9_method_9_code 12 = .ok (.aload_n 0, 1) := by decide +kernel
theorem d_X7_countRings_13 : decode prog_9_method_9_code 13 = .ok (.getfield 18, 3) := by decide +kernel
theorem d_X7_countRings_16 : decode prog_9_method_9_code 16 = .ok (.iload 4, 2) := by decide +kernel
theorem d_X7_countRings_18 : decode prog_9_method_9_code 18 = .ok (.baload, 1) := by decide +kernel
theorem d_X7_countRings_19 : decode prog_9_method_9_code 19 = .ok (.ifCond .ne 18, 3) := by decide +kernel
theorem d_X7_countRings_22 : decode prog_9_method_9_code 22 = .ok (.iinc 3 1, 3) := by decide +kernel
theorem d_X7_countRings_25 : decode prog_9_method_9_code 25 = .ok (.aload_n 0, 1) := by decide +kernel
theorem d_X7_countRings_26 : decode prog_9_method_9_code 26 = .ok (.aload_n 1, 1) := by decide +kernel
theorem d_X7_countRings_27 : decode prog_9_method_9_code 27 = .ok (.iload_n 2, 1) := by decide +kernel
theorem d_X7_countRings_28 : decode prog_9_method_9_code 28 = .ok (.iload 4, 2) := by decide +kernel
theorem d_X7_countRings_30 : decode prog_9_method_9_code 30 = .ok (.invokestatic 130, 3) := by decide +kernel
theorem d_X7_countRings_33 : decode prog_9_method_9_code 33 = .ok (.invokevirtual 122, 3) := by decide +kernel
theorem d_X7_countRings_36 : decode prog_9_method_9_code 36 = .ok (.pop, 1) := by decide +kernel
theorem d_X7_countRings_37 : decode prog_9_method_9_code 37 = .ok (.iinc 4 1, 3) := by decide +kernel
theorem d_X7_countRings_40 : decode prog_9_method_9_code 40 = .ok (.goto (-35), 3) := by decide +kernel
theorem d_X7_countRings_43 : decode prog_9_method_9_code 43 = .ok (.iload_n 3, 1) := by decide +kernel
theorem d_X7_countRings_44 : decode prog_9_method_9_code 44 = .ok (.ireturn, 1) := by decide +kernel
theorem d_X7_slotAt_0 : decode prog_9_method_5_code 0 = .ok (.iload_n 0, 1) := by decide +kernel
theorem d_X7_slotAt_1 : decode prog_9_method_5_code 1 = .ok (.ifCond .lt 10, 3) := by decide +kernel
theorem d_X7_slotAt_4 : decode prog_9_method_5_code 4 = .ok (.iload_n 0, 1) := by decide +kernel
theorem d_X7_slotAt_5 : decode prog_9_method_5_code 5 = .ok (.invokestatic 107, 3) := by decide +kernel
theorem d_X7_slotAt_8 : decode prog_9_method_5_code 8 = .ok (.ifCond .ne 5, 3) := by decide +kernel
theorem d_X7_slotAt_11 : decode prog_9_method_5_code 11 = .ok (.iconst (-1), 1) := by decide +kernel
theorem d_X7_slotAt_12 : decode prog_9_method_5_code 12 = .ok (.ireturn, 1) := by decide +kernel
theorem d_X7_slotAt_13 : decode prog_9_method_5_code 13 = .ok (.iload_n 0, 1) := by decide +kernel
theorem d_X7_slotAt_14 : decode prog_9_method_5_code 14 = .ok (.invokestatic 110, 3) := by decide +kernel
theorem d_X7_slotAt_17 : decode prog_9_method_5_code 17 = .ok (.iload_n 1, 1) := by decide +kernel
theorem d_X7_slotAt_18 : decode prog_9_method_5_code 18 = .ok (.if_icmp .ne 12, 3) := by decide +kernel
theorem d_X7_slotAt_21 : decode prog_9_method_5_code 21 = .ok (.iload_n 3, 1) := by decide +kernel
theorem d_X7_slotAt_22 : decode prog_9_method_5_code 22 = .ok (.iload_n 0, 1) := by decide +kernel
theorem d_X7_slotAt_23 : decode prog_9_method_5_code 23 = .ok (.invokestatic 107, 3) := by decide +kernel
theorem d_X7_slotAt_26 : decode prog_9_method_5_code 26 = .ok (.iadd, 1) := by decide +kernel
theorem d_X7_slotAt_27 : decode prog_9_method_5_code 27 = .ok (.iconst 1, 1) := by decide +kernel
theorem d_X7_slotAt_28 : decode prog_9_method_5_code 28 = .ok (.isub, 1) := by decide +kernel
theorem d_X7_slotAt_29 : decode prog_9_method_5_code 29 = .ok (.ireturn, 1) := by decide +kernel
theorem d_X7_slotAt_30 : decode prog_9_method_5_code 30 = .ok (.iload_n 0, 1) := by decide +kernel
theorem d_X7_slotAt_31 : decode prog_9_method_5_code 31 = .ok (.invokestatic 110, 3) := by decide +kernel
theorem d_X7_slotAt_34 : decode prog_9_method_5_code 34 = .ok (.iload_n 2, 1) := by decide +kernel
theorem d_X7_slotAt_35 : decode prog_9_method_5_code 35 = .ok (.if_icmp .ne 16, 3) := by decide +kernel
theorem d_X7_slotAt_38 : decode prog_9_method_5_code 38 = .ok (.iconst 4, 1) := by decide +kernel
theorem d_X7_slotAt_39 : decode prog_9_method_5_code 39 = .ok (.iload_n 3, 1) := by decide +kernel
theorem d_X7_slotAt_40 : decode prog_9_method_5_code 40 = .ok (.isub, 1) := by decide +kernel
theorem d_X7_slotAt_41 : decode prog_9_method_5_code 41 = .ok (.iload_n 0, 1) := by decide +kernel
theorem d_X7_slotAt_42 : decode prog_9_method_5_code 42 = .ok (.invokestatic 107, 3) := by decide +kernel
theorem d_X7_slotAt_45 : decode prog_9_method_5_code 45 = .ok (.iadd, 1) := by decide +kernel
theorem d_X7_slotAt_46 : decode prog_9_method_5_code 46 = .ok (.iconst 1, 1) := by decide +kernel
theorem d_X7_slotAt_47 : decode prog_9_method_5_code 47 = .ok (.isub, 1) := by decide +kernel
theorem d_X7_slotAt_48 : decode prog_9_method_5_code 48 = .ok (.goto 4, 3) := by decide +kernel
theorem d_X7_slotAt_51 : decode prog_9_method_5_code 51 = .ok (.iconst (-1), 1) := by decide +kernel
theorem d_X7_slotAt_52 : decode prog_9_method_5_code 52 = .ok (.ireturn, 1) := by decide +kernel
theorem d_X7_noteOutside_0 : decode prog_9_method_4_code 0 = .ok (.aload_n 1, 1) := by decide +kernel
theorem d_X7_noteOutside_1 : decode prog_9_method_4_code 1 = .ok (.getfield 78, 3) := by decide +kernel
theorem d_X7_noteOutside_4 : decode prog_9_method_4_code 4 = .ok (.aload_n 1, 1) := by decide +kernel
theorem d_X7_noteOutside_5 : decode prog_9_method_4_code 5 = .ok (.getfield 37, 3) := by decide +kernel
theorem d_X7_noteOutside_8 : decode prog_9_method_4_code 8 = .ok (.iload_n 2, 1) := by decide +kernel
theorem d_X7_noteOutside_9 : decode prog_9_method_4_code 9 = .ok (.invokevirtual 41, 3) := by decide +kernel
theorem d_X7_noteOutside_12 : decode prog_9_method_4_code 12 = .ok (.invokevirtual 82, 3) := by decide +kernel
theorem d_X7_noteOutside_15 : decode prog_9_method_4_code 15 = .ok (.iconst 5, 1) := by decide +kernel
theorem d_X7_noteOutside_16 : decode prog_9_method_4_code 16 = .ok (.invokestatic 87, 3) := by decide +kernel
theorem d_X7_noteOutside_19 : decode prog_9_method_4_code 19 = .ok (.istore 5, 2) := by decide +kernel
theorem d_X7_noteOutside_21 : decode prog_9_method_4_code 21 = .ok (.iconst 1, 1) := by decide +kernel
theorem d_X7_noteOutside_22 : decode prog_9_method_4_code 22 = .ok (.istore 6, 2) := by decide +kernel
theorem d_X7_noteOutside_24 : decode prog_9_method_4_code 24 = .ok (.iload 6, 2) := by decide +kernel
theorem d_X7_noteOutside_26 : decode prog_9_method_4_code 26 = .ok (.iload 5, 2) := by decide +kernel
theorem d_X7_noteOutside_28 : decode prog_9_method_4_code 28 = .ok (.if_icmp .ge 76, 3) := by decide +kernel
theorem d_X7_noteOutside_31 : decode prog_9_method_4_code 31 = .ok (.iload 4, 2) := by decide +kernel
theorem d_X7_noteOutside_33 : decode prog_9_method_4_code 33 = .ok (.iload 6, 2) := by decide +kernel
theorem d_X7_noteOutside_35 : decode prog_9_method_4_code 35 = .ok (.iadd, 1) := by decide +kernel
theorem d_X7_noteOutside_36 : decode prog_9_method_4_code 36 = .ok (.iconst 1, 1) := by decide +kernel
theorem d_X7_noteOutside_37 : decode prog_9_method_4_code 37 = .ok (.isub, 1) := by decide +kernel
theorem d_X7_noteOutside_38 : decode prog_9_method_4_code 38 = .ok (.istore 7, 2) := by decide +kernel
theorem d_X7_noteOutside_40 : decode prog_9_method_4_code 40 = .ok (.aload_n 1, 1) := by decide +kernel
theorem d_X7_noteOutside_41 : decode prog_9_method_4_code 41 = .ok (.getfield 37, 3) := by decide +kernel
theorem d_X7_noteOutside_44 : decode prog_9_method_4_code 44 = .ok (.iload_n 2, 1) := by decide +kernel
theorem d_X7_noteOutside_45 : decode prog_9_method_4_code 45 = .ok (.iload 6, 2) := by decide +kernel
theorem d_X7_noteOutside_47 : decode prog_9_method_4_code 47 = .ok (.invokestatic 93, 3) := by decide +kernel
theorem d_X7_noteOutside_50 : decode prog_9_method_4_code 50 = .ok (.invokevirtual 96, 3) := by decide +kernel
theorem d_X7_noteOutside_53 : decode prog_9_method_4_code 53 = .ok (.istore 8, 2) := by decide +kernel
theorem d_X7_noteOutside_55 : decode prog_9_method_4_code 55 = .ok (.iload 7, 2) := by decide +kernel
theorem d_X7_noteOutside_57 : decode prog_9_method_4_code 57 = .ok (.bipush 8, 2) := by decide +kernel
theorem d_X7_noteOutside_59 : decode prog_9_method_4_code 59 = .ok (.invokestatic 99, 3) := by decide +kernel
theorem d_X7_noteOutside_62 : decode prog_9_method_4_code 62 = .ok (.ifCond .eq 36, 3) := by decide +kernel
theorem d_X7_noteOutside_65 : decode prog_9_method_4_code 65 = .ok (.aload_n 0, 1) := by decide +kernel
theorem d_X7_noteOutside_66 : decode prog_9_method_4_code 66 = .ok (.getfield 18, 3) := by decide +kernel
theorem d_X7_noteOutside_69 : decode prog_9_method_4_code 69 = .ok (.iload 7, 2) := by decide +kernel
theorem d_X7_noteOutside_71 : decode prog_9_method_4_code 71 = .ok (.iconst 0, 1) := by decide +kernel
theorem d_X7_noteOutside_72 : decode prog_9_method_4_code 72 = .ok (.bastore, 1) := by decide +kernel
theorem d_X7_noteOutside_73 : decode prog_9_method_4_code 73 = .ok (.aload_n 0, 1) := by decide +kernel
theorem d_X7_noteOutside_74 : decode prog_9_method_4_code 74 = .ok (.getfield 9, 3) := by decide +kernel
theorem d_X7_noteOutside_77 : decode prog_9_method_4_code 77 = .ok (.iload 7, 2) := by decide +kernel
theorem d_X7_noteOutside_79 : decode prog_9_method_4_code 79 = .ok (.iload 8, 2) := by decide +kernel
theorem d_X7_noteOutside_81 : decode prog_9_method_4_code 81 = .ok (.iastore, 1) := by decide +kernel
theorem d_X7_noteOutside_82 : decode prog_9_method_4_code 82 = .ok (.aload_n 0, 1) := by decide +kernel
theorem d_X7_noteOutside_83 : decode prog_9_method_4_code 83 = .ok (.getfield 15, 3) := by decide +kernel
theorem d_X7_noteOutside_86 : decode prog_9_method_4_code 86 = .ok (.iload 7, 2) := by decide +kernel
theorem d_X7_noteOutside_88 : decode prog_9_method_4_code 88 = .ok (.iload 8, 2) := by decide +kernel
theorem d_X7_noteOutside_90 : decode prog_9_method_4_code 90 = .ok (.iload_n 2, 1) := by decide +kernel
theorem d_X7_noteOutside_91 : decode prog_9_method_4_code 91 = .ok (.iload_n 3, 1) := by decide +kernel
theorem d_X7_noteOutside_92 : decode prog_9_method_4_code 92 = .ok (.iload 4, 2) := by decide +kernel
theorem d_X7_noteOutside_94 : decode prog_9_method_4_code 94 = .ok (.invokestatic 103, 3) := by decide +kernel
theorem d_X7_noteOutside_97 : decode prog_9_method_4_code 97 = .ok (.iastore, 1) := by decide +kernel
theorem d_X7_noteOutside_98 : decode prog_9_method_4_code 98 = .ok (.iinc 6 1, 3) := by decide +kernel
theorem d_X7_noteOutside_101 : decode prog_9_method_4_code 101 = .ok (.goto (-77), 3) := by decide +kernel
theorem d_X7_noteOutside_104 : decode prog_9_method_4_code 104 = .ok (.return_, 1) := by decide +kernel
theorem d_X7_passAll_0 : decode prog_9_method_3_code 0 = .ok (.iconst 0, 1) := by decide +kernel
theorem d_X7_passAll_1 : decode prog_9_method_3_code 1 = .ok (.istore_n 1, 1) := by decide +kernel
theorem d_X7_passAll_2 : decode prog_9_method_3_code 2 = .ok (.iload_n 1, 1) := by decide +kernel
theorem d_X7_passAll_3 : decode prog_9_method_3_code 3 = .ok (.bipush 8, 2) := by decide +kernel
theorem d_X7_passAll_5 : decode prog_9_method_3_code 5 = .ok (.if_icmp .ge 16, 3) := by decide +kernel
theorem d_X7_passAll_8 : decode prog_9_method_3_code 8 = .ok (.aload_n 0, 1) := by decide +kernel
theorem d_X7_passAll_9 : decode prog_9_method_3_code 9 = .ok (.getfield 18, 3) := by decide +kernel
theorem d_X7_passAll_12 : decode prog_9_method_3_code 12 = .ok (.iload_n 1, 1) := by decide +kernel
theorem d_X7_passAll_13 : decode prog_9_method_3_code 13 = .ok (.iconst 1, 1) := by decide +kernel
theorem d_X7_passAll_14 : decode prog_9_method_3_code 14 = .ok (.bastore, 1) := by decide +kernel
theorem d_X7_passAll_15 : decode prog_9_method_3_code 15 = .ok (.iinc 1 1, 3) := by decide +kernel
theorem d_X7_passAll_18 : decode prog_9_method_3_code 18 = .ok (.goto (-16), 3) := by decide +kernel
theorem d_X7_passAll_21 : decode prog_9_method_3_code 21 = .ok (.return_, 1) := by decide +kernel
theorem d_X8_agentKind_0 : decode prog_10_method_13_code 0 = .ok (.iload_n 2, 1) := by decide +kernel
theorem d_X8_agentKind_1 : decode prog_10_method_13_code 1 = .ok (.aload_n 0, 1) := by decide +kernel
theorem d_X8_agentKind_2 : decode prog_10_method_13_code 2 = .ok (.iload_n 1, 1) := by decide +kernel
theorem d_X8_agentKind_3 : decode prog_10_method_13_code 3 = .ok (.invokevirtual 59, 3) := by decide +kernel
theorem d_X8_agentKind_6 : decode prog_10_method_13_code 6 = .ok (.invokestatic 43, 3) := by decide +kernel
theorem d_X8_agentKind_9 : decode prog_10_method_13_code 9 = .ok (.ifCond .eq 23, 3) := by decide +kernel
theorem d_X8_agentKind_12 : decode prog_10_method_13_code 12 = .ok (.iload_n 2, 1) := by decide +kernel
theorem d_X8_agentKind_13 : decode prog_10_method_13_code 13 = .ok (.bipush 12, 2) := by decide +kernel
theorem d_X8_agentKind_15 : decode prog_10_method_13_code 15 = .ok (.if_icmp .ge 17, 3) := by decide +kernel
theorem d_X8_agentKind_18 : decode prog_10_method_13_code 18 = .ok (.aload_n 0, 1) := by decide +kernel
theorem d_X8_agentKind_19 : decode prog_10_method_13_code 19 = .ok (.getfield 24, 3) := by decide +kernel
theorem d_X8_agentKind_22 : decode prog_10_method_13_code 22 = .ok (.iload_n 1, 1) := by decide +kernel
theorem d_X8_agentKind_23 : decode prog_10_method_13_code 23 = .ok (.bipush 12, 2) := by decide +kernel
theorem d_X8_agentKind_25 : decode prog_10_method_13_code 25 = .ok (.imul, 1) := by decide +kernel
theorem d_X8_agentKind_26 : decode prog_10_method_13_code 26 = .ok (.iload_n 2, 1) := by decide +kernel
theorem d_X8_agentKind_27 : decode prog_10_method_13_code 27 = .ok (.iadd, 1) := by decide +kernel
theorem d_X8_agentKind_28 : decode prog_10_method_13_code 28 = .ok (.iaload, 1) := by decide +kernel
theorem d_X8_agentKind_29 : decode prog_10_method_13_code 29 = .ok (.goto 4, 3) := by decide +kernel
theorem d_X8_agentKind_32 : decode prog_10_method_13_code 32 = .ok (.iconst (-1), 1) := by decide +kernel
theorem d_X8_agentKind_33 : decode prog_10_method_13_code 33 = .ok (.ireturn, 1) := by decide +kernel
theorem d_X7_putAgents_0 : decode prog_9_method_6_code 0 = .ok (.iconst 0, 1) := by decide +kernel
theorem d_X7_putAgents_1 : decode prog_9_method_6_code 1 = .ok (.istore_n 3, 1) := by decide +kernel
theorem d_X7_putAgents_2 : decode prog_9_method_6_code 2 = .ok (.iconst 0, 1) := by decide +kernel
theorem d_X7_putAgents_3 : decode prog_9_method_6_code 3 = .ok (.istore 4, 2) := by decide +kernel
theorem d_X7_putAgents_5 : decode prog_9_method_6_code 5 = .ok (.iload 4, 2) := by decide +kernel
theorem d_X7_putAgents_7 : decode prog_9_method_6_code 7 = .ok (.aload_n 1, 1) := by decide +kernel
theorem d_X7_putAgents_8 : decode prog_9_method_6_code 8 = .ok (.getfield 25, 3) := by decide +kernel
theorem d_X7_putAgents_11 : decode prog_9_method_6_code 11 = .ok (.iload_n 2, 1) := by decide +kernel
theorem d_X7_putAgents_12 : decode prog_9_method_6_code 12 = .ok (.invokevirtual 113, 3) := by decide +kernel
theorem d_X7_putAgents_15 : decode prog_9_method_6_code 15 = .ok (.if_icmp .ge 51, 3) := by decide +kernel
theorem d_X7_putAgents_18 : decode prog_9_method_6_code 18 = .ok (.iload 4, 2) := by decide +kernel
theorem d_X7_putAgents_20 : decode prog_9_method_6_code 20 = .ok (.bipush 12, 2) := by decide +kernel
theorem d_X7_putAgents_22 : decode prog_9_method_6_code 22 = .ok (.if_icmp .ge 44, 3) := by decide +kernel
theorem d_X7_putAgents_25 : decode prog_9_method_6_code 25 = .ok (.aload_n 0, 1) := by decide +kernel
theorem d_X7_putAgents_26 : decode prog_9_method_6_code 26 = .ok (.getfield 22, 3) := by decide +kernel
theorem d_X7_putAgents_29 : decode prog_9_method_6_code 29 = .ok (.iload 4, 2) := by decide +kernel
theorem d_X7_putAgents_31 : decode prog_9_method_6_code 31 = .ok (.aload_n 1, 1) := by decide +kernel
theorem d_X7_putAgents_32 : decode prog_9_method_6_code 32 = .ok (.getfield 37, 3) := by decide +kernel
theorem d_X7_putAgents_35 : decode prog_9_method_6_code 35 = .ok (.aload_n 1, 1) := by decide +kernel
theorem d_X7_putAgents_36 : decode prog_9_method_6_code 36 = .ok (.getfield 25, 3) := by decide +kernel
theorem d_X7_putAgents_39 : decode prog_9_method_6_code 39 = .ok (.iload_n 2, 1) := by decide +kernel
theorem d_X7_putAgents_40 : decode prog_9_method_6_code 40 = .ok (.iload 4, 2) := by decide +kernel
theorem d_X7_putAgents_42 : decode prog_9_method_6_code 42 = .ok (.invokevirtual 116, 3) := by decide +kernel
theorem d_X7_putAgents_45 : decode prog_9_method_6_code 45 = .ok (.iload_n 3, 1) := by decide +kernel
theorem d_X7_putAgents_46 : decode prog_9_method_6_code 46 = .ok (.invokevirtual 119, 3) := by decide +kernel
theorem d_X7_putAgents_49 : decode prog_9_method_6_code 49 = .ok (.iastore, 1) := by decide +kernel
theorem d_X7_putAgents_50 : decode prog_9_method_6_code 50 = .ok (.aload_n 0, 1) := by decide +kernel
theorem d_X7_putAgents_51 : decode prog_9_method_6_code 51 = .ok (.getfield 22, 3) := by decide +kernel
theorem d_X7_putAgents_54 : decode prog_9_method_6_code 54 = .ok (.iload 4, 2) := by decide +kernel
theorem d_X7_putAgents_56 : decode prog_9_method_6_code 56 = .ok (.iaload, 1) := by decide +kernel
theorem d_X7_putAgents_57 : decode prog_9_method_6_code 57 = .ok (.iconst 1, 1) := by decide +kernel
theorem d_X7_putAgents_58 : decode prog_9_method_6_code 58 = .ok (.iadd, 1) := by decide +kernel
theorem d_X7_putAgents_59 : decode prog_9_method_6_code 59 = .ok (.istore_n 3, 1) := by decide +kernel
theorem d_X7_putAgents_60 : decode prog_9_method_6_code 60 = .ok (.iinc 4 1, 3) := by decide +kernel
theorem d_X7_putAgents_63 : decode prog_9_method_6_code 63 = .ok (.goto (-58), 3) := by decide +kernel
theorem d_X7_putAgents_66 : decode prog_9_method_6_code 66 = .ok (.return_, 1) := by decide +kernel
theorem d_X4_join_0 : decode prog_6_method_12_code 0 = .ok (.aload_n 0, 1) := by decide +kernel
theorem d_X4_join_1 : decode prog_6_method_12_code 1 = .ok (.iload_n 1, 1) := by decide +kernel
theorem d_X4_join_2 : decode prog_6_method_12_code 2 = .ok (.iload_n 2, 1) := by decide +kernel
theorem d_X4_join_3 : decode prog_6_method_12_code 3 = .ok (.invokevirtual 67, 3) := by decide +kernel
theorem d_X4_join_6 : decode prog_6_method_12_code 6 = .ok (.aload_n 0, 1) := by decide +kernel
theorem d_X4_join_7 : decode prog_6_method_12_code 7 = .ok (.iload_n 2, 1) := by decide +kernel
theorem d_X4_join_8 : decode prog_6_method_12_code 8 = .ok (.iload_n 1, 1) := by decide +kernel
theorem d_X4_join_9 : decode prog_6_method_12_code 9 = .ok (.invokevirtual 67, 3) := by decide +kernel
theorem d_X4_join_12 : decode prog_6_method_12_code 12 = .ok (.return_, 1) := by decide +kernel
theorem d_X7_wireAgents_0 : decode prog_9_method_7_code 0 = .ok (.iconst 0, 1) := by decide +kernel
theorem d_X7_wireAgents_1 : decode prog_9_method_7_code 1 = .ok (.istore_n 3, 1) := by decide +kernel
theorem d_X7_wireAgents_2 : decode prog_9_method_7_code 2 = .ok (.iload_n 3, 1) := by decide +kernel
theorem d_X7_wireAgents_3 : decode prog_9_method_7_code 3 = .ok (.aload_n 1, 1) := by decide +kernel
theorem d_X7_wireAgents_4 : decode prog_9_method_7_code 4 = .ok (.getfield 25, 3) := by decide +kernel
theorem d_X7_wireAgents_7 : decode prog_9_method_7_code 7 = .ok (.iload_n 2, 1) := by decide +kernel
theorem d_X7_wireAgents_8 : decode prog_9_method_7_code 8 = .ok (.invokevirtual 113, 3) := by decide +kernel
theorem d_X7_wireAgents_11 : decode prog_9_method_7_code 11 = .ok (.if_icmp .ge 86, 3) := by decide +kernel
theorem d_X7_wireAgents_14 : decode prog_9_method_7_code 14 = .ok (.iload_n 3, 1) := by decide +kernel
theorem d_X7_wireAgents_15 : decode prog_9_method_7_code 15 = .ok (.bipush 12, 2) := by decide +kernel
theorem d_X7_wireAgents_17 : decode prog_9_method_7_code 17 = .ok (.if_icmp .ge 80, 3) := by decide +kernel
theorem d_X7_wireAgents_20 : decode prog_9_method_7_code 20 = .ok (.aload_n 1, 1) := by decide +kernel
theorem d_X7_wireAgents_21 : decode prog_9_method_7_code 21 = .ok (.getfield 78, 3) := by decide +kernel
theorem d_X7_wireAgents_24 : decode prog_9_method_7_code 24 = .ok (.aload_n 1, 1) := by decide +kernel
theorem d_X7_wireAgents_25 : decode prog_9_method_7_code 25 = .ok (.getfield 25, 3) := by decide +kernel
theorem d_X7_wireAgents_28 : decode prog_9_method_7_code 28 = .ok (.iload_n 2, 1) := by decide +kernel
theorem d_X7_wireAgents_29 : decode prog_9_method_7_code 29 = .ok (.iload_n 3, 1) := by decide +kernel
theorem d_X7_wireAgents_30 : decode prog_9_method_7_code 30 = .ok (.invokevirtual 116, 3) := by decide +kernel
theorem d_X7_wireAgents_33 : decode prog_9_method_7_code 33 = .ok (.invokevirtual 82, 3) := by decide +kernel
theorem d_X7_wireAgents_36 : decode prog_9_method_7_code 36 = .ok (.istore 4, 2) := by decide +kernel
theorem d_X7_wireAgents_38 : decode prog_9_method_7_code 38 = .ok (.iconst 0, 1) := by decide +kernel
theorem d_X7_wireAgents_39 : decode prog_9_method_7_code 39 = .ok (.istore 5, 2) := by decide +kernel
theorem d_X7_wireAgents_41 : decode prog_9_method_7_code 41 = .ok (.iload 5, 2) := by decide +kernel
theorem d_X7_wireAgents_43 : decode prog_9_method_7_code 43 = .ok (.iload 4, 2) := by decide +kernel
theorem d_X7_wireAgents_45 : decode prog_9_method_7_code 45 = .ok (.if_icmp .ge 46, 3) := by decide +kernel
theorem d_X7_wireAgents_48 : decode prog_9_method_7_code 48 = .ok (.aload_n 0, 1) := by decide +kernel
theorem d_X7_wireAgents_49 : decode prog_9_method_7_code 49 = .ok (.aload_n 1, 1) := by decide +kernel
theorem d_X7_wireAgents_50 : decode prog_9_method_7_code 50 = .ok (.getfield 25, 3) := by decide +kernel
theorem d_X7_wireAgents_53 : decode prog_9_method_7_code 53 = .ok (.iload_n 2, 1) := by decide +kernel
theorem d_X7_wireAgents_54 : decode prog_9_method_7_code 54 = .ok (.iload_n 3, 1) := by decide +kernel
theorem d_X7_wireAgents_55 : decode prog_9_method_7_code 55 = .ok (.iload 5, 2) := by decide +kernel
theorem d_X7_wireAgents_57 : decode prog_9_method_7_code 57 = .ok (.invokestatic 93, 3) := by decide +kernel
theorem d_X7_wireAgents_60 : decode prog_9_method_7_code 60 = .ok (.invokevirtual 122, 3) := by decide +kernel
theorem d_X7_wireAgents_63 : decode prog_9_method_7_code 63 = .ok (.istore 6, 2) := by decide +kernel
theorem d_X7_wireAgents_65 : decode prog_9_method_7_code 65 = .ok (.aload_n 1, 1) := by decide +kernel
theorem d_X7_wireAgents_66 : decode prog_9_method_7_code 66 = .ok (.getfield 37, 3) := by decide +kernel
theorem d_X7_wireAgents_69 : decode prog_9_method_7_code 69 = .ok (.aload_n 0, 1) := by decide +kernel
theorem d_X7_wireAgents_70 : decode prog_9_method_7_code 70 = .ok (.getfield 22, 3) := by decide +kernel
theorem d_X7_wireAgents_73 : decode prog_9_method_7_code 73 = .ok (.iload_n 3, 1) := by decide +kernel
theorem d_X7_wireAgents_74 : decode prog_9_method_7_code 74 = .ok (.iaload, 1) := by decide +kernel
theorem d_X7_wireAgents_75 : decode prog_9_method_7_code 75 = .ok (.iload 5, 2) := by decide +kernel
theorem d_X7_wireAgents_77 : decode prog_9_method_7_code 77 = .ok (.invokestatic 93, 3) := by decide +kernel
theorem d_X7_wireAgents_80 : decode prog_9_method_7_code 80 = .ok (.iload 6, 2) := by decide +kernel
theorem d_X7_wireAgents_82 : decode prog_9_method_7_code 82 = .ok (.invokevirtual 126, 3) := by decide +kernel
theorem d_X7_wireAgents_85 : decode prog_9_method_7_code 85 = .ok (.iinc 5 1, 3) := by decide +kernel
theorem d_X7_wireAgents_88 : decode prog_9_method_7_code 88 = .ok (.goto (-47), 3) := by decide +kernel
theorem d_X7_wireAgents_91 : decode prog_9_method_7_code 91 = .ok (.iinc 3 1, 3) := by decide +kernel
theorem d_X7_wireAgents_94 : decode prog_9_method_7_code 94 = .ok (.goto (-92), 3) := by decide +kernel
theorem d_X7_wireAgents_97 : decode prog_9_method_7_code 97 = .ok (.return_, 1) := by decide +kernel
theorem d_X7_wireOuter_0 : decode prog_9_method_8_code 0 = .ok (.iconst 0, 1) := by decide +kernel
theorem d_X7_wireOuter_1 : decode prog_9_method_8_code 1 = .ok (.istore_n 3, 1) := by decide +kernel
theorem d_X7_wireOuter_2 : decode prog_9_method_8_code 2 = .ok (.iload_n 3, 1) := by decide +kernel
theorem d_X7_wireOuter_3 : decode prog_9_method_8_code 3 = .ok (.bipush 8, 2) := by decide +kernel
theorem d_X7_wireOuter_5 : decode prog_9_method_8_code 5 = .ok (.if_icmp .ge 54, 3) := by decide +kernel
theorem d_X7_wireOuter_8 : decode prog_9_method_8_code 8 = .ok (.aload_n 0, 1) := by decide +kernel
theorem d_X7_wireOuter_9 : decode prog_9_method_8_code 9 = .ok (.getfield 18, 3) := by decide +kernel
theorem d_X7_wireOuter_12 : decode prog_9_method_8_code 12 = .ok (.iload_n 3, 1) := by decide +kernel
theorem d_X7_wireOuter_13 : decode prog_9_method_8_code 13 = .ok (.baload, 1) := by decide +kernel
theorem d_X7_wireOuter_14 : decode prog_9_method_8_code 14 = .ok (.ifCond .ne 39, 3) := by decide +kernel
theorem d_X7_wireOuter_17 : decode prog_9_method_8_code 17 = .ok (.aload_n 0, 1) := by decide +kernel
theorem d_X7_wireOuter_18 : decode prog_9_method_8_code 18 = .ok (.getfield 15, 3) := by decide +kernel
theorem d_X7_wireOuter_21 : decode prog_9_method_8_code 21 = .ok (.iload_n 3, 1) := by decide +kernel
theorem d_X7_wireOuter_22 : decode prog_9_method_8_code 22 = .ok (.iaload, 1) := by decide +kernel
theorem d_X7_wireOuter_23 : decode prog_9_method_8_code 23 = .ok (.iconst (-1), 1) := by decide +kernel
theorem d_X7_wireOuter_24 : decode prog_9_method_8_code 24 = .ok (.if_icmp .ne 29, 3) := by decide +kernel
theorem d_X7_wireOuter_27 : decode prog_9_method_8_code 27 = .ok (.aload_n 1, 1) := by decide +kernel
theorem d_X7_wireOuter_28 : decode prog_9_method_8_code 28 = .ok (.getfield 37, 3) := by decide +kernel
theorem d_X7_wireOuter_31 : decode prog_9_method_8_code 31 = .ok (.aload_n 0, 1) := by decide +kernel
theorem d_X7_wireOuter_32 : decode prog_9_method_8_code 32 = .ok (.getfield 9, 3) := by decide +kernel
theorem d_X7_wireOuter_35 : decode prog_9_method_8_code 35 = .ok (.iload_n 3, 1) := by decide +kernel
theorem d_X7_wireOuter_36 : decode prog_9_method_8_code 36 = .ok (.iaload, 1) := by decide +kernel
theorem d_X7_wireOuter_37 : decode prog_9_method_8_code 37 = .ok (.aload_n 0, 1) := by decide +kernel
theorem d_X7_wireOuter_38 : decode prog_9_method_8_code 38 = .ok (.aload_n 1, 1) := by decide +kernel
theorem d_X7_wireOuter_39 : decode prog_9_method_8_code 39 = .ok (.getfield 25, 3) := by decide +kernel
theorem d_X7_wireOuter_42 : decode prog_9_method_8_code 42 = .ok (.iload_n 2, 1) := by decide +kernel
theorem d_X7_wireOuter_43 : decode prog_9_method_8_code 43 = .ok (.iload_n 3, 1) := by decide +kernel
theorem d_X7_wireOuter_44 : decode prog_9_method_8_code 44 = .ok (.invokestatic 130, 3) := by decide +kernel
theorem d_X7_wireOuter_47 : decode prog_9_method_8_code 47 = .ok (.invokevirtual 122, 3) := by decide +kernel
theorem d_X7_wireOuter_50 : decode prog_9_method_8_code 50 = .ok (.invokevirtual 126, 3) := by decide +kernel
theorem d_X7_wireOuter_53 : decode prog_9_method_8_code 53 = .ok (.iinc 3 1, 3) := by decide +kernel
theorem d_X7_wireOuter_56 : decode prog_9_method_8_code 56 = .ok (.goto (-54), 3) := by decide +kernel
theorem d_X7_wireOuter_59 : decode prog_9_method_8_code 59 = .ok (.return_, 1) := by decide +kernel
theorem d_X8_firstKind_0 : decode prog_10_method_11_code 0 = .ok (.aload_n 0, 1) := by decide +kernel
theorem d_X8_firstKind_1 : decode prog_10_method_11_code 1 = .ok (.iload_n 1, 1) := by decide +kernel
theorem d_X8_firstKind_2 : decode prog_10_method_11_code 2 = .ok (.invokevirtual 51, 3) := by decide +kernel
theorem d_X8_firstKind_5 : decode prog_10_method_11_code 5 = .ok (.ifCond .eq 12, 3) := by decide +kernel
theorem d_X8_firstKind_8 : decode prog_10_method_11_code 8 = .ok (.aload_n 0, 1) := by decide +kernel
theorem d_X8_firstKind_9 : decode prog_10_method_11_code 9 = .ok (.getfield 15, 3) := by decide +kernel
theorem d_X8_firstKind_12 : decode prog_10_method_11_code 12 = .ok (.iload_n 1, 1) := by decide +kernel
theorem d_X8_firstKind_13 : decode prog_10_method_11_code 13 = .ok (.iaload, 1) := by decide +kernel
theorem d_X8_firstKind_14 : decode prog_10_method_11_code 14 = .ok (.goto 4, 3) := by decide +kernel
theorem d_X8_firstKind_17 : decode prog_10_method_11_code 17 = .ok (.iconst (-1), 1) := by decide +kernel
theorem d_X8_firstKind_18 : decode prog_10_method_11_code 18 = .ok (.ireturn, 1) := by decide +kernel
theorem d_X8_ringsIn_0 : decode prog_10_method_14_code 0 = .ok (.aload_n 0, 1) := by decide +kernel
theorem d_X8_ringsIn_1 : decode prog_10_method_14_code 1 = .ok (.iload_n 1, 1) := by decide +kernel
theorem d_X8_ringsIn_2 : decode prog_10_method_14_code 2 = .ok (.invokevirtual 51, 3) := by decide +kernel
theorem d_X8_ringsIn_5 : decode prog_10_method_14_code 5 = .ok (.ifCond .eq 12, 3) := by decide +kernel
theorem d_X8_ringsIn_8 : decode prog_10_method_14_code 8 = .ok (.aload_n 0, 1) := by decide +kernel
theorem d_X8_ringsIn_9 : decode prog_10_method_14_code 9 = .ok (.getfield 21, 3) := by decide +kernel
theorem d_X8_ringsIn_12 : decode prog_10_method_14_code 12 = .ok (.iload_n 1, 1) := by decide +kernel
theorem d_X8_ringsIn_13 : decode prog_10_method_14_code 13 = .ok (.iaload, 1) := by decide +kernel
theorem d_X8_ringsIn_14 : decode prog_10_method_14_code 14 = .ok (.goto 4, 3) := by decide +kernel
theorem d_X8_ringsIn_17 : decode prog_10_method_14_code 17 = .ok (.iconst 0, 1) := by decide +kernel
theorem d_X8_ringsIn_18 : decode prog_10_method_14_code 18 = .ok (.ireturn, 1) := by decide +kernel
theorem d_X7_rewrite_0 : decode prog_9_method_2_code 0 = .ok (.aload_n 1, 1) := by decide +kernel
theorem d_X7_rewrite_1 : decode prog_9_method_2_code 1 = .ok (.getfield 25, 3) := by decide +kernel
theorem d_X7_rewrite_4 : decode prog_9_method_2_code 4 = .ok (.iload_n 2, 1) := by decide +kernel
theorem d_X7_rewrite_5 : decode prog_9_method_2_code 5 = .ok (.invokevirtual 31, 3) := by decide +kernel
theorem d_X7_rewrite_8 : decode prog_9_method_2_code 8 = .ok (.aload_n 1, 1) := by decide +kernel
theorem d_X7_rewrite_9 : decode prog_9_method_2_code 9 = .ok (.getfield 37, 3) := by decide +kernel
theorem d_X7_rewrite_12 : decode prog_9_method_2_code 12 = .ok (.iload_n 3, 1) := by decide +kernel
theorem d_X7_rewrite_13 : decode prog_9_method_2_code 13 = .ok (.invokevirtual 41, 3) := by decide +kernel
theorem d_X7_rewrite_16 : decode prog_9_method_2_code 16 = .ok (.if_icmp .ne 7, 3) := by decide +kernel
theorem d_X7_rewrite_19 : decode prog_9_method_2_code 19 = .ok (.iconst 1, 1) := by decide +kernel
theorem d_X7_rewrite_20 : decode prog_9_method_2_code 20 = .ok (.goto 4, 3) := by decide +kernel
theorem d_X7_rewrite_23 : decode prog_9_method_2_code 23 = .ok (.iconst 0, 1) := by decide +kernel
theorem d_X7_rewrite_24 : decode prog_9_method_2_code 24 = .ok (.istore 5, 2) := by decide +kernel
theorem d_X7_rewrite_26 : decode prog_9_method_2_code 26 = .ok (.iload 5, 2) := by decide +kernel
theorem d_X7_rewrite_28 : decode prog_9_method_2_code 28 = .ok (.ifCond .eq 7, 3) := by decide +kernel
theorem d_X7_rewrite_31 : decode prog_9_method_2_code 31 = .ok (.iload_n 3, 1) := by decide +kernel
theorem d_X7_rewrite_32 : decode prog_9_method_2_code 32 = .ok (.goto 5, 3) := by decide +kernel
theorem d_X7_rewrite_35 : decode prog_9_method_2_code 35 = .ok (.iload 4, 2) := by decide +kernel
theorem d_X7_rewrite_37 : decode prog_9_method_2_code 37 = .ok (.istore 6, 2) := by decide +kernel
theorem d_X7_rewrite_39 : decode prog_9_method_2_code 39 = .ok (.iload 5, 2) := by decide +kernel
theorem d_X7_rewrite_41 : decode prog_9_method_2_code 41 = .ok (.ifCond .eq 8, 3) := by decide +kernel
theorem d_X7_rewrite_44 : decode prog_9_method_2_code 44 = .ok (.iload 4, 2) := by decide +kernel
theorem d_X7_rewrite_46 : decode prog_9_method_2_code 46 = .ok (.goto 4, 3) := by decide +kernel
theorem d_X7_rewrite_49 : decode prog_9_method_2_code 49 = .ok (.iload_n 3, 1) := by decide +kernel
theorem d_X7_rewrite_50 : decode prog_9_method_2_code 50 = .ok (.istore 7, 2) := by decide +kernel
theorem d_X7_rewrite_52 : decode prog_9_method_2_code 52 = .ok (.aload_n 0, 1) := by decide +kernel
theorem d_X7_rewrite_53 : decode prog_9_method_2_code 53 = .ok (.invokevirtual 46, 3) := by decide +kernel
theorem d_X7_rewrite_56 : decode prog_9_method_2_code 56 = .ok (.aload_n 0, 1) := by decide +kernel
theorem d_X7_rewrite_57 : decode prog_9_method_2_code 57 = .ok (.aload_n 1, 1) := by decide +kernel
theorem d_X7_rewrite_58 : decode prog_9_method_2_code 58 = .ok (.iload 6, 2) := by decide +kernel
theorem d_X7_rewrite_60 : decode prog_9_method_2_code 60 = .ok (.iload 7, 2) := by decide +kernel
theorem d_X7_rewrite_62 : decode prog_9_method_2_code 62 = .ok (.iconst 0, 1) := by decide +kernel
theorem d_X7_rewrite_63 : decode prog_9_method_2_code 63 = .ok (.invokevirtual 49, 3) := by decide +kernel
theorem d_X7_rewrite_66 : decode prog_9_method_2_code 66 = .ok (.aload_n 0, 1) := by decide +kernel
theorem d_X7_rewrite_67 : decode prog_9_method_2_code 67 = .ok (.aload_n 1, 1) := by decide +kernel
theorem d_X7_rewrite_68 : decode prog_9_method_2_code 68 = .ok (.iload 7, 2) := by decide +kernel
theorem d_X7_rewrite_70 : decode prog_9_method_2_code 70 = .ok (.iload 6, 2) := by decide +kernel
theorem d_X7_rewrite_72 : decode prog_9_method_2_code 72 = .ok (.iconst 4, 1) := by decide +kernel
theorem d_X7_rewrite_73 : decode prog_9_method_2_code 73 = .ok (.invokevirtual 49, 3) := by decide +kernel
theorem d_X7_rewrite_76 : decode prog_9_method_2_code 76 = .ok (.aload_n 1, 1) := by decide +kernel
theorem d_X7_rewrite_77 : decode prog_9_method_2_code 77 = .ok (.getfield 37, 3) := by decide +kernel
theorem d_X7_rewrite_80 : decode prog_9_method_2_code 80 = .ok (.iload 6, 2) := by decide +kernel
theorem d_X7_rewrite_82 : decode prog_9_method_2_code 82 = .ok (.invokevirtual 53, 3) := by decide +kernel
theorem d_X7_rewrite_85 : decode prog_9_method_2_code 85 = .ok (.aload_n 1, 1) := by decide +kernel
theorem d_X7_rewrite_86 : decode prog_9_method_2_code 86 = .ok (.getfield 37, 3) := by decide +kernel
theorem d_X7_rewrite_89 : decode prog_9_method_2_code 89 = .ok (.iload 7, 2) := by decide +kernel
theorem d_X7_rewrite_91 : decode prog_9_method_2_code 91 = .ok (.invokevirtual 53, 3) := by decide +kernel
theorem d_X7_rewrite_94 : decode prog_9_method_2_code 94 = .ok (.aload_n 0, 1) := by decide +kernel
theorem d_X7_rewrite_95 : decode prog_9_method_2_code 95 = .ok (.aload_n 1, 1) := by decide +kernel
theorem d_X7_rewrite_96 : decode prog_9_method_2_code 96 = .ok (.iload_n 2, 1) := by decide +kernel
theorem d_X7_rewrite_97 : decode prog_9_method_2_code 97 = .ok (.invokevirtual 57, 3) := by decide +kernel
theorem d_X7_rewrite_100 : decode prog_9_method_2_code 100 = .ok (.aload_n 0, 1) := by decide +kernel
theorem d_X7_rewrite_101 : decode prog_9_method_2_code 101 = .ok (.aload_n 1, 1) := by decide +kernel
theorem d_X7_rewrite_102 : decode prog_9_method_2_code 102 = .ok (.iload_n 2, 1) := by decide +kernel
theorem d_X7_rewrite_103 : decode prog_9_method_2_code 103 = .ok (.invokevirtual 61, 3) := by decide +kernel
theorem d_X7_rewrite_106 : decode prog_9_method_2_code 106 = .ok (.aload_n 0, 1) := by decide +kernel
theorem d_X7_rewrite_107 : decode prog_9_method_2_code 107 = .ok (.aload_n 1, 1) := by decide +kernel
theorem d_X7_rewrite_108 : decode prog_9_method_2_code 108 = .ok (.iload_n 2, 1) := by decide +kernel
theorem d_X7_rewrite_109 : decode prog_9_method_2_code 109 = .ok (.invokevirtual 64, 3) := by decide +kernel
theorem d_X7_rewrite_112 : decode prog_9_method_2_code 112 = .ok (.aload_n 1, 1) := by decide +kernel
theorem d_X7_rewrite_113 : decode prog_9_method_2_code 113 = .ok (.getfield 37, 3) := by decide +kernel
theorem d_X7_rewrite_116 : decode prog_9_method_2_code 116 = .ok (.dup, 1) := by decide +kernel
theorem d_X7_rewrite_117 : decode prog_9_method_2_code 117 = .ok (.getfield 67, 3) := by decide +kernel
theorem d_X7_rewrite_120 : decode prog_9_method_2_code 120 = .ok (.aload_n 1, 1) := by decide +kernel
theorem d_X7_rewrite_121 : decode prog_9_method_2_code 121 = .ok (.getfield 25, 3) := by decide +kernel
theorem d_X7_rewrite_124 : decode prog_9_method_2_code 124 = .ok (.iload_n 2, 1) := by decide +kernel
theorem d_X7_rewrite_125 : decode prog_9_method_2_code 125 = .ok (.invokevirtual 71, 3) := by decide +kernel
theorem d_X7_rewrite_128 : decode prog_9_method_2_code 128 = .ok (.aload_n 0, 1) := by decide +kernel
theorem d_X7_rewrite_129 : decode prog_9_method_2_code 129 = .ok (.aload_n 1, 1) := by decide +kernel
theorem d_X7_rewrite_130 : decode prog_9_method_2_code 130 = .ok (.getfield 25, 3) := by decide +kernel
theorem d_X7_rewrite_133 : decode prog_9_method_2_code 133 = .ok (.iload_n 2, 1) := by decide +kernel
theorem d_X7_rewrite_134 : decode prog_9_method_2_code 134 = .ok (.invokevirtual 74, 3) := by decide +kernel
theorem d_X7_rewrite_137 : decode prog_9_method_2_code 137 = .ok (.iadd, 1) := by decide +kernel
theorem d_X7_rewrite_138 : decode prog_9_method_2_code 138 = .ok (.iadd, 1) := by decide +kernel
theorem d_X7_rewrite_139 : decode prog_9_method_2_code 139 = .ok (.putfield 67, 3) := by decide +kernel
theorem d_X7_rewrite_142 : decode prog_9_method_2_code 142 = .ok (.return_, 1) := by decide +kernel
theorem d_X11_takeStep_0 : decode prog_1_method_31_code 0 = .ok (.aload_n 0, 1) := by decide +kernel
theorem d_X11_takeStep_1 : decode prog_1_method_31_code 1 = .ok (.getfield 61, 3) := by decide +kernel
theorem d_X11_takeStep_4 : decode prog_1_method_31_code 4 = .ok (.getfield 92, 3) := by decide +kernel
theorem d_X11_takeStep_7 : decode prog_1_method_31_code 7 = .ok (.astore_n 2, 1) := by decide +kernel
theorem d_X11_takeStep_8 : decode prog_1_method_31_code 8 = .ok (.aload_n 0, 1) := by decide +kernel
theorem d_X11_takeStep_9 : decode prog_1_method_31_code 9 = .ok (.getfield 61, 3) := by decide +kernel
theorem d_X11_takeStep_12 : decode prog_1_method_31_code 12 = .ok (.iload_n 1, 1) := by decide +kernel
theorem d_X11_takeStep_13 : decode prog_1_method_31_code 13 = .ok (.invokevirtual 193, 3) := by decide +kernel
theorem d_X11_takeStep_16 : decode prog_1_method_31_code 16 = .ok (.istore_n 3, 1) := by decide +kernel
theorem d_X11_takeStep_17 : decode prog_1_method_31_code 17 = .ok (.aload_n 2, 1) := by decide +kernel
theorem d_X11_takeStep_18 : decode prog_1_method_31_code 18 = .ok (.iload_n 1, 1) := by decide +kernel
theorem d_X11_takeStep_19 : decode prog_1_method_31_code 19 = .ok (.invokevirtual 238, 3) := by decide +kernel
theorem d_X11_takeStep_22 : decode prog_1_method_31_code 22 = .ok (.istore 4, 2) := by decide +kernel
theorem d_X11_takeStep_24 : decode prog_1_method_31_code 24 = .ok (.iload_n 3, 1) := by decide +kernel
theorem d_X11_takeStep_25 : decode prog_1_method_31_code 25 = .ok (.iconst (-1), 1) := by decide +kernel
theorem d_X11_takeStep_26 : decode prog_1_method_31_code 26 = .ok (.if_icmp .eq 27, 3) := by decide +kernel
theorem d_X11_takeStep_29 : decode prog_1_method_31_code 29 = .ok (.aload_n 2, 1) := by decide +kernel
theorem d_X11_takeStep_30 : decode prog_1_method_31_code 30 = .ok (.getfield 96, 3) := by decide +kernel
theorem d_X11_takeStep_33 : decode prog_1_method_31_code 33 = .ok (.iconst 2, 1) := by decide +kernel
theorem d_X11_takeStep_34 : decode prog_1_method_31_code 34 = .ok (.isub, 1) := by decide +kernel
theorem d_X11_takeStep_35 : decode prog_1_method_31_code 35 = .ok (.aload_n 0, 1) := by decide +kernel
theorem d_X11_takeStep_36 : decode prog_1_method_31_code 36 = .ok (.getfield 61, 3) := by decide +kernel
theorem d_X11_takeStep_39 : decode prog_1_method_31_code 39 = .ok (.getfield 115, 3) := by decide +kernel
theorem d_X11_takeStep_42 : decode prog_1_method_31_code 42 = .ok (.iload_n 3, 1) := by decide +kernel
theorem d_X11_takeStep_43 : decode prog_1_method_31_code 43 = .ok (.invokevirtual 171, 3) := by decide +kernel
theorem d_X11_takeStep_46 : decode prog_1_method_31_code 46 = .ok (.iadd, 1) := by decide +kernel
theorem d_X11_takeStep_47 : decode prog_1_method_31_code 47 = .ok (.sipush 400, 3) := by decide +kernel
theorem d_X11_takeStep_50 : decode prog_1_method_31_code 50 = .ok (.if_icmp .le 5, 3) := by decide +kernel
theorem d_X11_takeStep_53 : decode prog_1_method_31_code 53 = .ok (.iconst 0, 1) := by decide +kernel
theorem d_X11_takeStep_54 : decode prog_1_method_31_code 54 = .ok (.ireturn, 1) := by decide +kernel
theorem d_X11_takeStep_55 : decode prog_1_method_31_code 55 = .ok (.iload_n 1, 1) := by decide +kernel
theorem d_X11_takeStep_56 : decode prog_1_method_31_code 56 = .ok (.iload 4, 2) := by decide +kernel
theorem d_X11_takeStep_58 : decode prog_1_method_31_code 58 = .ok (.invokestatic 241, 3) := by decide +kernel
theorem d_X11_takeStep_61 : decode prog_1_method_31_code 61 = .ok (.istore 5, 2) := by decide +kernel
theorem d_X11_takeStep_63 : decode prog_1_method_31_code 63 = .ok (.iload_n 1, 1) := by decide +kernel
theorem d_X11_takeStep_64 : decode prog_1_method_31_code 64 = .ok (.iload 4, 2) := by decide +kernel
theorem d_X11_takeStep_66 : decode prog_1_method_31_code 66 = .ok (.invokestatic 246, 3) := by decide +kernel
theorem d_X11_takeStep_69 : decode prog_1_method_31_code 69 = .ok (.istore 6, 2) := by decide +kernel
theorem d_X11_takeStep_71 : decode prog_1_method_31_code 71 = .ok (.aload_n 0, 1) := by decide +kernel
theorem d_X11_takeStep_72 : decode prog_1_method_31_code 72 = .ok (.getfield 26, 3) := by decide +kernel
theorem d_X11_takeStep_75 : decode prog_1_method_31_code 75 = .ok (.aload_n 2, 1) := by decide +kernel
theorem d_X11_takeStep_76 : decode prog_1_method_31_code 76 = .ok (.iload 5, 2) := by decide +kernel
theorem d_X11_takeStep_78 : decode prog_1_method_31_code 78 = .ok (.invokevirtual 175, 3) := by decide +kernel
theorem d_X11_takeStep_81 : decode prog_1_method_31_code 81 = .ok (.aload_n 2, 1) := by decide +kernel
theorem d_X11_takeStep_82 : decode prog_1_method_31_code 82 = .ok (.iload 6, 2) := by decide +kernel
theorem d_X11_takeStep_84 : decode prog_1_method_31_code 84 = .ok (.invokevirtual 175, 3) := by decide +kernel
theorem d_X11_takeStep_87 : decode prog_1_method_31_code 87 = .ok (.invokevirtual 249, 3) := by decide +kernel
theorem d_X11_takeStep_90 : decode prog_1_method_31_code 90 = .ok (.aload_n 0, 1) := by decide +kernel
theorem d_X11_takeStep_91 : decode prog_1_method_31_code 91 = .ok (.getfield 19, 3) := by decide +kernel
theorem d_X11_takeStep_94 : decode prog_1_method_31_code 94 = .ok (.aload_n 0, 1) := by decide +kernel
theorem d_X11_takeStep_95 : decode prog_1_method_31_code 95 = .ok (.getfield 61, 3) := by decide +kernel
theorem d_X11_takeStep_98 : decode prog_1_method_31_code 98 = .ok (.iload_n 3, 1) := by decide +kernel
theorem d_X11_takeStep_99 : decode prog_1_method_31_code 99 = .ok (.iload 5, 2) := by decide +kernel
theorem d_X11_takeStep_101 : decode prog_1_method_31_code 101 = .ok (.iload 6, 2) := by decide +kernel
theorem d_X11_takeStep_103 : decode prog_1_method_31_code 103 = .ok (.invokevirtual 253, 3) := by decide +kernel
theorem d_X11_takeStep_106 : decode prog_1_method_31_code 106 = .ok (.aload_n 0, 1) := by decide +kernel
theorem d_X11_takeStep_107 : decode prog_1_method_31_code 107 = .ok (.getfield 26, 3) := by decide +kernel
theorem d_X11_takeStep_110 : decode prog_1_method_31_code 110 = .ok (.aload_n 2, 1) := by decide +kernel
theorem d_X11_takeStep_111 : decode prog_1_method_31_code 111 = .ok (.getfield 96, 3) := by decide +kernel
theorem d_X11_takeStep_114 : decode prog_1_method_31_code 114 = .ok (.invokevirtual 257, 3) := by decide +kernel
theorem d_X11_takeStep_117 : decode prog_1_method_31_code 117 = .ok (.iconst 1, 1) := by decide +kernel
theorem d_X11_takeStep_118 : decode prog_1_method_31_code 118 = .ok (.ireturn, 1) := by decide +kernel
theorem d_X11_runRounds_0 : decode prog_1_method_34_code 0 = .ok (.iconst 0, 1) := by decide +kernel
theorem d_X11_runRounds_1 : decode prog_1_method_34_code 1 = .ok (.istore_n 2, 1) := by decide +kernel
theorem d_X11_runRounds_2 : decode prog_1_method_34_code 2 = .ok (.iconst 0, 1) := by decide +kernel
theorem d_X11_runRounds_3 : decode prog_1_method_34_code 3 = .ok (.istore_n 3, 1) := by decide +kernel
theorem d_X11_runRounds_4 : decode prog_1_method_34_code 4 = .ok (.iload_n 3, 1) := by decide +kernel
theorem d_X11_runRounds_5 : decode prog_1_method_34_code 5 = .ok (.sipush 3000, 3) := by decide +kernel
theorem d_X11_runRounds_8 : decode prog_1_method_34_code 8 = .ok (.if_icmp .ge 105, 3) := by decide +kernel
theorem d_X11_runRounds_11 : decode prog_1_method_34_code 11 = .ok (.iload_n 2, 1) := by decide +kernel
theorem d_X11_runRounds_12 : decode prog_1_method_34_code 12 = .ok (.iload_n 1, 1) := by decide +kernel
theorem d_X11_runRounds_13 : decode prog_1_method_34_code 13 = .ok (.if_icmp .ge 100, 3) := by decide +kernel
theorem d_X11_runRounds_16 : decode prog_1_method_34_code 16 = .ok (.aload_n 0, 1) := by decide +kernel
theorem d_X11_runRounds_17 : decode prog_1_method_34_code 17 = .ok (.getfield 61, 3) := by decide +kernel
theorem d_X11_runRounds_20 : decode prog_1_method_34_code 20 = .ok (.aload_n 0, 1) := by decide +kernel
theorem d_X11_runRounds_21 : decode prog_1_method_34_code 21 = .ok (.getfield 37, 3) := by decide +kernel
theorem d_X11_runRounds_24 : decode prog_1_method_34_code 24 = .ok (.invokevirtual 270, 3) := by decide +kernel
theorem d_X11_runRounds_27 : decode prog_1_method_34_code 27 = .ok (.istore 4, 2) := by decide +kernel
theorem d_X11_runRounds_29 : decode prog_1_method_34_code 29 = .ok (.iload 4, 2) := by decide +kernel
theorem d_X11_runRounds_31 : decode prog_1_method_34_code 31 = .ok (.ifCond .ne 5, 3) := by decide +kernel
theorem d_X11_runRounds_34 : decode prog_1_method_34_code 34 = .ok (.iload_n 2, 1) := by decide +kernel
theorem d_X11_runRounds_35 : decode prog_1_method_34_code 35 = .ok (.ireturn, 1) := by decide +kernel
theorem d_X11_runRounds_36 : decode prog_1_method_34_code 36 = .ok (.aload_n 0, 1) := by decide +kernel
theorem d_X11_runRounds_37 : decode prog_1_method_34_code 37 = .ok (.getfield 26, 3) := by decide +kernel
theorem d_X11_runRounds_40 : decode prog_1_method_34_code 40 = .ok (.dup, 1) := by decide +kernel
theorem d_X11_runRounds_41 : decode prog_1_method_34_code 41 = .ok (.getfield 142, 3) := by decide +kernel
theorem d_X11_runRounds_44 : decode prog_1_method_34_code 44 = .ok (.iconst 1, 1) := by decide +kernel
theorem d_X11_runRounds_45 : decode prog_1_method_34_code 45 = .ok (.iadd, 1) := by decide +kernel
theorem d_X11_runRounds_46 : decode prog_1_method_34_code 46 = .ok (.putfield 142, 3) := by decide +kernel
theorem d_X11_runRounds_49 : decode prog_1_method_34_code 49 = .ok (.iconst 0, 1) := by decide +kernel
theorem d_X11_runRounds_50 : decode prog_1_method_34_code 50 = .ok (.istore 5, 2) := by decide +kernel
theorem d_X11_runRounds_52 : decode prog_1_method_34_code 52 = .ok (.iload 5, 2) := by decide +kernel
theorem d_X11_runRounds_54 : decode prog_1_method_34_code 54 = .ok (.iload 4, 2) := by decide +kernel
theorem d_X11_runRounds_56 : decode prog_1_method_34_code 56 = .ok (.if_icmp .ge 51, 3) := by decide +kernel
theorem d_X11_runRounds_59 : decode prog_1_method_34_code 59 = .ok (.iload 5, 2) := by decide +kernel
theorem d_X11_runRounds_61 : decode prog_1_method_34_code 61 = .ok (.aload_n 0, 1) := by decide +kernel
theorem d_X11_runRounds_62 : decode prog_1_method_34_code 62 = .ok (.getfield 37, 3) := by decide +kernel
theorem d_X11_runRounds_65 : decode prog_1_method_34_code 65 = .ok (.arraylength, 1) := by decide +kernel
theorem d_X11_runRounds_66 : decode prog_1_method_34_code 66 = .ok (.if_icmp .ge 41, 3) := by decide +kernel
theorem d_X11_runRounds_69 : decode prog_1_method_34_code 69 = .ok (.iload_n 2, 1) := by decide +kernel
theorem d_X11_runRounds_70 : decode prog_1_method_34_code 70 = .ok (.iload_n 1, 1) := by decide +kernel
theorem d_X11_runRounds_71 : decode prog_1_method_34_code 71 = .ok (.if_icmp .ge 36, 3) := by decide +kernel
theorem d_X11_runRounds_74 : decode prog_1_method_34_code 74 = .ok (.aload_n 0, 1) := by decide +kernel
theorem d_X11_runRounds_75 : decode prog_1_method_34_code 75 = .ok (.aload_n 0, 1) := by decide +kernel
theorem d_X11_runRounds_76 : decode prog_1_method_34_code 76 = .ok (.getfield 37, 3) := by decide +kernel
theorem d_X11_runRounds_79 : decode prog_1_method_34_code 79 = .ok (.iload 5, 2) := by decide +kernel
theorem d_X11_runRounds_81 : decode prog_1_method_34_code 81 = .ok (.iaload, 1) := by decide +kernel
theorem d_X11_runRounds_82 : decode prog_1_method_34_code 82 = .ok (.invokevirtual 196, 3) := by decide +kernel
theorem d_X11_runRounds_85 : decode prog_1_method_34_code 85 = .ok (.ifCond .ne 13, 3) := by decide +kernel
theorem d_X11_runRounds_88 : decode prog_1_method_34_code 88 = .ok (.aload_n 0, 1) := by decide +kernel
theorem d_X11_runRounds_89 : decode prog_1_method_34_code 89 = .ok (.getfield 26, 3) := by decide +kernel
theorem d_X11_runRounds_92 : decode prog_1_method_34_code 92 = .ok (.iconst 1, 1) := by decide +kernel
theorem d_X11_runRounds_93 : decode prog_1_method_34_code 93 = .ok (.putfield 145, 3) := by decide +kernel
theorem d_X11_runRounds_96 : decode prog_1_method_34_code 96 = .ok (.iload_n 2, 1) := by decide +kernel
theorem d_X11_runRounds_97 : decode prog_1_method_34_code 97 = .ok (.ireturn, 1) := by decide +kernel
theorem d_X11_runRounds_98 : decode prog_1_method_34_code 98 = .ok (.iinc 2 1, 3) := by decide +kernel
theorem d_X11_runRounds_101 : decode prog_1_method_34_code 101 = .ok (.iinc 5 1, 3) := by decide +kernel
theorem d_X11_runRounds_104 : decode prog_1_method_34_code 104 = .ok (.goto (-52), 3) := by decide +kernel
theorem d_X11_runRounds_107 : decode prog_1_method_34_code 107 = .ok (.iinc 3 1, 3) := by decide +kernel
theorem d_X11_runRounds_110 : decode prog_1_method_34_code 110 = .ok (.goto (-106), 3) := by decide +kernel
theorem d_X11_runRounds_113 : decode prog_1_method_34_code 113 = .ok (.iload_n 2, 1) := by decide +kernel
theorem d_X11_runRounds_114 : decode prog_1_method_34_code 114 = .ok (.ireturn, 1) := by decide +kernel
theorem d_X11_runSingly_0 : decode prog_1_method_32_code 0 = .ok (.iconst 0, 1) := by decide +kernel
theorem d_X11_runSingly_1 : decode prog_1_method_32_code 1 = .ok (.istore_n 3, 1) := by decide +kernel
theorem d_X11_runSingly_2 : decode prog_1_method_32_code 2 = .ok (.iload_n 3, 1) := by decide +kernel
theorem d_X11_runSingly_3 : decode prog_1_method_32_code 3 = .ok (.iload_n 2, 1) := by decide +kernel
theorem d_X11_runSingly_4 : decode prog_1_method_32_code 4 = .ok (.if_icmp .ge 43, 3) := by decide +kernel
theorem d_X11_runSingly_7 : decode prog_1_method_32_code 7 = .ok (.aload_n 0, 1) := by decide +kernel
theorem d_X11_runSingly_8 : decode prog_1_method_32_code 8 = .ok (.iload_n 1, 1) := by decide +kernel
theorem d_X11_runSingly_9 : decode prog_1_method_32_code 9 = .ok (.invokevirtual 260, 3) := by decide +kernel
theorem d_X11_runSingly_12 : decode prog_1_method_32_code 12 = .ok (.istore 4, 2) := by decide +kernel
theorem d_X11_runSingly_14 : decode prog_1_method_32_code 14 = .ok (.iload 4, 2) := by decide +kernel
theorem d_X11_runSingly_16 : decode prog_1_method_32_code 16 = .ok (.iconst (-1), 1) := by decide +kernel
theorem d_X11_runSingly_17 : decode prog_1_method_32_code 17 = .ok (.if_icmp .ne 5, 3) := by decide +kernel
theorem d_X11_runSingly_20 : decode prog_1_method_32_code 20 = .ok (.iload_n 3, 1) := by decide +kernel
theorem d_X11_runSingly_21 : decode prog_1_method_32_code 21 = .ok (.ireturn, 1) := by decide +kernel
theorem d_X11_runSingly_22 : decode prog_1_method_32_code 22 = .ok (.aload_n 0, 1) := by decide +kernel
theorem d_X11_runSingly_23 : decode prog_1_method_32_code 23 = .ok (.iload 4, 2) := by decide +kernel
theorem d_X11_runSingly_25 : decode prog_1_method_32_code 25 = .ok (.invokevirtual 196, 3) := by decide +kernel
theorem d_X11_runSingly_28 : decode prog_1_method_32_code 28 = .ok (.ifCond .ne 13, 3) := by decide +kernel
theorem d_X11_runSingly_31 : decode prog_1_method_32_code 31 = .ok (.aload_n 0, 1) := by decide +kernel
theorem d_X11_runSingly_32 : decode prog_1_method_32_code 32 = .ok (.getfield 26, 3) := by decide +kernel
theorem d_X11_runSingly_35 : decode prog_1_method_32_code 35 = .ok (.iconst 1, 1) := by decide +kernel
theorem d_X11_runSingly_36 : decode prog_1_method_32_code 36 = .ok (.putfield 145, 3) := by decide +kernel
theorem d_X11_runSingly_39 : decode prog_1_method_32_code 39 = .ok (.iload_n 3, 1) := by decide +kernel
theorem d_X11_runSingly_40 : decode prog_1_method_32_code 40 = .ok (.ireturn, 1) := by decide +kernel
theorem d_X11_runSingly_41 : decode prog_1_method_32_code 41 = .ok (.iinc 3 1, 3) := by decide +kernel
theorem d_X11_runSingly_44 : decode prog_1_method_32_code 44 = .ok (.goto (-42), 3) := by decide +kernel
theorem d_X11_runSingly_47 : decode prog_1_method_32_code 47 = .ok (.iload_n 2, 1) := by decide +kernel
theorem d_X11_runSingly_48 : decode prog_1_method_32_code 48 = .ok (.ireturn, 1) := by decide +kernel
theorem d_X11_run_0 : decode prog_1_method_14_code 0 = .ok (.iload_n 1, 1) := by decide +kernel
theorem d_X11_run_1 : decode prog_1_method_14_code 1 = .ok (.ifCond .lt 19, 3) := by decide +kernel
theorem d_X11_run_4 : decode prog_1_method_14_code 4 = .ok (.iload_n 1, 1) := by decide +kernel
theorem d_X11_run_5 : decode prog_1_method_14_code 5 = .ok (.iconst 3, 1) := by decide +kernel
theorem d_X11_run_6 : decode prog_1_method_14_code 6 = .ok (.if_icmp .gt 14, 3) := by decide +kernel
theorem d_X11_run_9 : decode prog_1_method_14_code 9 = .ok (.iload_n 2, 1) := by decide +kernel
theorem d_X11_run_10 : decode prog_1_method_14_code 10 = .ok (.ifCond .lt 10, 3) := by decide +kernel
theorem d_X11_run_13 : decode prog_1_method_14_code 13 = .ok (.iload_n 2, 1) := by decide +kernel
theorem d_X11_run_14 : decode prog_1_method_14_code 14 = .ok (.sipush 3000, 3) := by decide +kernel
theorem d_X11_run_17 : decode prog_1_method_14_code 17 = .ok (.if_icmp .le 7, 3) := by decide +kernel
theorem d_X11_run_20 : decode prog_1_method_14_code 20 = .ok (.sipush (-1002), 3) := by decide +kernel
theorem d_X11_run_23 : decode prog_1_method_14_code 23 = .ok (.ireturn, 1) := by decide +kernel
theorem d_X11_run_24 : decode prog_1_method_14_code 24 = .ok (.aload_n 0, 1) := by decide +kernel
theorem d_X11_run_25 : decode prog_1_method_14_code 25 = .ok (.getfield 26, 3) := by decide +kernel
theorem d_X11_run_28 : decode prog_1_method_14_code 28 = .ok (.iconst 0, 1) := by decide +kernel
theorem d_X11_run_29 : decode prog_1_method_14_code 29 = .ok (.putfield 145, 3) := by decide +kernel
theorem d_X11_run_32 : decode prog_1_method_14_code 32 = .ok (.iload_n 1, 1) := by decide +kernel
theorem d_X11_run_33 : decode prog_1_method_14_code 33 = .ok (.iconst 2, 1) := by decide +kernel
theorem d_X11_run_34 : decode prog_1_method_14_code 34 = .ok (.if_icmp .ne 11, 3) := by decide +kernel
theorem d_X11_run_37 : decode prog_1_method_14_code 37 = .ok (.aload_n 0, 1) := by decide +kernel
theorem d_X11_run_38 : decode prog_1_method_14_code 38 = .ok (.iload_n 2, 1) := by decide +kernel
theorem d_X11_run_39 : decode prog_1_method_14_code 39 = .ok (.invokevirtual 199, 3) := by decide +kernel
theorem d_X11_run_42 : decode prog_1_method_14_code 42 = .ok (.goto 9, 3) := by decide +kernel
theorem d_X11_run_45 : decode prog_1_method_14_code 45 = .ok (.aload_n 0, 1) := by decide +kernel
theorem d_X11_run_46 : decode prog_1_method_14_code 46 = .ok (.iload_n 1, 1) := by decide +kernel
theorem d_X11_run_47 : decode prog_1_method_14_code 47 = .ok (.iload_n 2, 1) := by decide +kernel
theorem d_X11_run_48 : decode prog_1_method_14_code 48 = .ok (.invokevirtual 202, 3) := by decide +kernel
theorem d_X11_run_51 : decode prog_1_method_14_code 51 = .ok (.ireturn, 1) := by decide +kernel
theorem d_X11_step_0 : decode prog_1_method_13_code 0 = .ok (.aload_n 0, 1) := by decide +kernel
theorem d_X11_step_1 : decode prog_1_method_13_code 1 = .ok (.getfield 61, 3) := by decide +kernel
theorem d_X11_step_4 : decode prog_1_method_13_code 4 = .ok (.getfield 92, 3) := by decide +kernel
theorem d_X11_step_7 : decode prog_1_method_13_code 7 = .ok (.iload_n 1, 1) := by decide +kernel
theorem d_X11_step_8 : decode prog_1_method_13_code 8 = .ok (.invokevirtual 174, 3) := by decide +kernel
theorem d_X11_step_11 : decode prog_1_method_13_code 11 = .ok (.ifCond .ne 7, 3) := by decide +kernel
theorem d_X11_step_14 : decode prog_1_method_13_code 14 = .ok (.sipush (-1001), 3) := by decide +kernel
theorem d_X11_step_17 : decode prog_1_method_13_code 17 = .ok (.ireturn, 1) := by decide +kernel
theorem d_X11_step_18 : decode prog_1_method_13_code 18 = .ok (.aload_n 0, 1) := by decide +kernel
theorem d_X11_step_19 : decode prog_1_method_13_code 19 = .ok (.getfield 61, 3) := by decide +kernel
theorem d_X11_step_22 : decode prog_1_method_13_code 22 = .ok (.iload_n 1, 1) := by decide +kernel
theorem d_X11_step_23 : decode prog_1_method_13_code 23 = .ok (.invokevirtual 193, 3) := by decide +kernel
theorem d_X11_step_26 : decode prog_1_method_13_code 26 = .ok (.iconst (-1), 1) := by decide +kernel
theorem d_X11_step_27 : decode prog_1_method_13_code 27 = .ok (.if_icmp .ne 7, 3) := by decide +kernel
theorem d_X11_step_30 : decode prog_1_method_13_code 30 = .ok (.sipush (-1003), 3) := by decide +kernel
theorem d_X11_step_33 : decode prog_1_method_13_code 33 = .ok (.ireturn, 1) := by decide +kernel
theorem d_X11_step_34 : decode prog_1_method_13_code 34 = .ok (.aload_n 0, 1) := by decide +kernel
theorem d_X11_step_35 : decode prog_1_method_13_code 35 = .ok (.iload_n 1, 1) := by decide +kernel
theorem d_X11_step_36 : decode prog_1_method_13_code 36 = .ok (.invokevirtual 196, 3) := by decide +kernel
theorem d_X11_step_39 : decode prog_1_method_13_code 39 = .ok (.ifCond .eq 7, 3) := by decide +kernel
theorem d_X11_step_42 : decode prog_1_method_13_code 42 = .ok (.iconst 1, 1) := by decide +kernel
theorem d_X11_step_43 : decode prog_1_method_13_code 43 = .ok (.goto 4, 3) := by decide +kernel
theorem d_X11_step_46 : decode prog_1_method_13_code 46 = .ok (.iconst 0, 1) := by decide +kernel
theorem d_X11_step_47 : decode prog_1_method_13_code 47 = .ok (.ireturn, 1) := by decide +kernel
theorem d_X2_recentStep_0 : decode prog_4_method_5_code 0 = .ok (.iload_n 1, 1) := by decide +kernel
theorem d_X2_recentStep_1 : decode prog_4_method_5_code 1 = .ok (.aload_n 0, 1) := by decide +kernel
theorem d_X2_recentStep_2 : decode prog_4_method_5_code 2 = .ok (.getfield 15, 3) := by decide +kernel
theorem d_X2_recentStep_5 : decode prog_4_method_5_code 5 = .ok (.bipush 50, 2) := by decide +kernel
theorem d_X2_recentStep_7 : decode prog_4_method_5_code 7 = .ok (.invokestatic 34, 3) := by decide +kernel
theorem d_X2_recentStep_10 : decode prog_4_method_5_code 10 = .ok (.invokestatic 37, 3) := by decide +kernel
theorem d_X2_recentStep_13 : decode prog_4_method_5_code 13 = .ok (.ifCond .eq 24, 3) := by decide +kernel
theorem d_X2_recentStep_16 : decode prog_4_method_5_code 16 = .ok (.aload_n 0, 1) := by decide +kernel
theorem d_X2_recentStep_17 : decode prog_4_method_5_code 17 = .ok (.getfield 11, 3) := by decide +kernel
theorem d_X2_recentStep_20 : decode prog_4_method_5_code 20 = .ok (.aload_n 0, 1) := by decide +kernel
theorem d_X2_recentStep_21 : decode prog_4_method_5_code 21 = .ok (.getfield 15, 3) := by decide +kernel
theorem d_X2_recentStep_24 : decode prog_4_method_5_code 24 = .ok (.iconst 1, 1) := by decide +kernel
theorem d_X2_recentStep_25 : decode prog_4_method_5_code 25 = .ok (.isub, 1) := by decide +kernel
theorem d_X2_recentStep_26 : decode prog_4_method_5_code 26 = .ok (.iload_n 1, 1) := by decide +kernel
theorem d_X2_recentStep_27 : decode prog_4_method_5_code 27 = .ok (.isub, 1) := by decide +kernel
theorem d_X2_recentStep_28 : decode prog_4_method_5_code 28 = .ok (.bipush 50, 2) := by decide +kernel
theorem d_X2_recentStep_30 : decode prog_4_method_5_code 30 = .ok (.invokestatic 25, 3) := by decide +kernel
theorem d_X2_recentStep_33 : decode prog_4_method_5_code 33 = .ok (.iaload, 1) := by decide +kernel
theorem d_X2_recentStep_34 : decode prog_4_method_5_code 34 = .ok (.goto 4, 3) := by decide +kernel
theorem d_X2_recentStep_37 : decode prog_4_method_5_code 37 = .ok (.iconst (-1), 1) := by decide +kernel
theorem d_X2_recentStep_38 : decode prog_4_method_5_code 38 = .ok (.ireturn, 1) := by decide +kernel
theorem d_X11_trace_0 : decode prog_1_method_16_code 0 = .ok (.aload_n 0, 1) := by decide +kernel
theorem d_X11_trace_1 : decode prog_1_method_16_code 1 = .ok (.getfield 26, 3) := by decide +kernel
theorem d_X11_trace_4 : decode prog_1_method_16_code 4 = .ok (.iload_n 1, 1) := by decide +kernel
theorem d_X11_trace_5 : decode prog_1_method_16_code 5 = .ok (.invokevirtual 205, 3) := by decide +kernel
theorem d_X11_trace_8 : decode prog_1_method_16_code 8 = .ok (.ireturn, 1) := by decide +kernel
theorem d_X11_wired_0 : decode prog_1_method_10_code 0 = .ok (.aload_n 0, 1) := by decide +kernel
theorem d_X11_wired_1 : decode prog_1_method_10_code 1 = .ok (.getfield 61, 3) := by decide +kernel
theorem d_X11_wired_4 : decode prog_1_method_10_code 4 = .ok (.getfield 92, 3) := by decide +kernel
theorem d_X11_wired_7 : decode prog_1_method_10_code 7 = .ok (.iload_n 1, 1) := by decide +kernel
theorem d_X11_wired_8 : decode prog_1_method_10_code 8 = .ok (.invokevirtual 174, 3) := by decide +kernel
theorem d_X11_wired_11 : decode prog_1_method_10_code 11 = .ok (.ifCond .ne 7, 3) := by decide +kernel
theorem d_X11_wired_14 : decode prog_1_method_10_code 14 = .ok (.sipush (-1001), 3) := by decide +kernel
theorem d_X11_wired_17 : decode prog_1_method_10_code 17 = .ok (.ireturn, 1) := by decide +kernel
theorem d_X11_wired_18 : decode prog_1_method_10_code 18 = .ok (.aload_n 0, 1) := by decide +kernel
theorem d_X11_wired_19 : decode prog_1_method_10_code 19 = .ok (.getfield 61, 3) := by decide +kernel
theorem d_X11_wired_22 : decode prog_1_method_10_code 22 = .ok (.getfield 108, 3) := by decide +kernel
theorem d_X11_wired_25 : decode prog_1_method_10_code 25 = .ok (.aload_n 0, 1) := by decide +kernel
theorem d_X11_wired_26 : decode prog_1_method_10_code 26 = .ok (.getfield 61, 3) := by decide +kernel
theorem d_X11_wired_29 : decode prog_1_method_10_code 29 = .ok (.getfield 92, 3) := by decide +kernel
theorem d_X11_wired_32 : decode prog_1_method_10_code 32 = .ok (.iload_n 1, 1) := by decide +kernel
theorem d_X11_wired_33 : decode prog_1_method_10_code 33 = .ok (.invokevirtual 175, 3) := by decide +kernel
theorem d_X11_wired_36 : decode prog_1_method_10_code 36 = .ok (.iload_n 2, 1) := by decide +kernel
theorem d_X11_wired_37 : decode prog_1_method_10_code 37 = .ok (.invokevirtual 160, 3) := by decide +kernel
theorem d_X11_wired_40 : decode prog_1_method_10_code 40 = .ok (.ifCond .ne 7, 3) := by decide +kernel
theorem d_X11_wired_43 : decode prog_1_method_10_code 43 = .ok (.sipush (-1002), 3) := by decide +kernel
theorem d_X11_wired_46 : decode prog_1_method_10_code 46 = .ok (.ireturn, 1) := by decide +kernel
theorem d_X11_wired_47 : decode prog_1_method_10_code 47 = .ok (.aload_n 0, 1) := by decide +kernel
theorem d_X11_wired_48 : decode prog_1_method_10_code 48 = .ok (.getfield 61, 3) := by decide +kernel
theorem d_X11_wired_51 : decode prog_1_method_10_code 51 = .ok (.getfield 92, 3) := by decide +kernel
theorem d_X11_wired_54 : decode prog_1_method_10_code 54 = .ok (.iload_n 1, 1) := by decide +kernel
theorem d_X11_wired_55 : decode prog_1_method_10_code 55 = .ok (.iload_n 2, 1) := by decide +kernel
theorem d_X11_wired_56 : decode prog_1_method_10_code 56 = .ok (.invokestatic 178, 3) := by decide +kernel
theorem d_X11_wired_59 : decode prog_1_method_10_code 59 = .ok (.invokevirtual 181, 3) := by decide +kernel
theorem d_X11_wired_62 : decode prog_1_method_10_code 62 = .ok (.ireturn, 1) := by decide +kernel
theorem d_X12_in_0 : decode prog_14_method_3_code 0 = .ok (.lload_n 0, 1) := by decide +kernel
theorem d_X12_in_1 : decode prog_14_method_3_code 1 = .ok (.lload_n 2, 1) := by decide +kernel
theorem d_X12_in_2 : decode prog_14_method_3_code 2 = .ok (.lcmp, 1) := by decide +kernel
theorem d_X12_in_3 : decode prog_14_method_3_code 3 = .ok (.ifCond .lt 14, 3) := by decide +kernel
theorem d_X12_in_6 : decode prog_14_method_3_code 6 = .ok (.lload_n 0, 1) := by decide +kernel
theorem d_X12_in_7 : decode prog_14_method_3_code 7 = .ok (.lload 4, 2) := by decide +kernel
theorem d_X12_in_9 : decode prog_14_method_3_code 9 = .ok (.lcmp, 1) := by decide +kernel
theorem d_X12_in_10 : decode prog_14_method_3_code 10 = .ok (.ifCond .gt 7, 3) := by decide +kernel
theorem d_X12_in_13 : decode prog_14_method_3_code 13 = .ok (.iconst 1, 1) := by decide +kernel
theorem d_X12_in_14 : decode prog_14_method_3_code 14 = .ok (.goto 4, 3) := by decide +kernel
theorem d_X12_in_17 : decode prog_14_method_3_code 17 = .ok (.iconst 0, 1) := by decide +kernel
theorem d_X12_in_18 : decode prog_14_method_3_code 18 = .ok (.ireturn, 1) := by decide +kernel
theorem d_X12_isAgent_0 : decode prog_14_method_41_code 0 = .ok (.iload_n 1, 1) := by decide +kernel
theorem d_X12_isAgent_1 : decode prog_14_method_41_code 1 = .ok (.i2l, 1) := by decide +kernel
theorem d_X12_isAgent_2 : decode prog_14_method_41_code 2 = .ok (.lconst 0, 1) := by decide +kernel
theorem d_X12_isAgent_3 : decode prog_14_method_41_code 3 = .ok (.ldc2_w 372, 3) := by decide +kernel
theorem d_X12_isAgent_6 : decode prog_14_method_41_code 6 = .ok (.invokestatic 191, 3) := by decide +kernel
theorem d_X12_isAgent_9 : decode prog_14_method_41_code 9 = .ok (.ifCond .eq 16, 3) := by decide +kernel
theorem d_X12_isAgent_12 : decode prog_14_method_41_code 12 = .ok (.aload_n 0, 1) := by decide +kernel
theorem d_X12_isAgent_13 : decode prog_14_method_41_code 13 = .ok (.getfield 49, 3) := by decide +kernel
theorem d_X12_isAgent_16 : decode prog_14_method_41_code 16 = .ok (.iload_n 1, 1) := by decide +kernel
theorem d_X12_isAgent_17 : decode prog_14_method_41_code 17 = .ok (.iaload, 1) := by decide +kernel
theorem d_X12_isAgent_18 : decode prog_14_method_41_code 18 = .ok (.ifCond .lt 7, 3) := by decide +kernel
theorem d_X12_isAgent_21 : decode prog_14_method_41_code 21 = .ok (.iconst 1, 1) := by decide +kernel
theorem d_X12_isAgent_22 : decode prog_14_method_41_code 22 = .ok (.goto 4, 3) := by decide +kernel
theorem d_X12_isAgent_25 : decode prog_14_method_41_code 25 = .ok (.iconst 0, 1) := by decide +kernel
theorem d_X12_isAgent_26 : decode prog_14_method_41_code 26 = .ok (.ireturn, 1) := by decide +kernel
theorem d_X12_agent_0 : decode prog_14_method_51_code 0 = .ok (.aload_n 0, 1) := by decide +kernel
theorem d_X12_agent_1 : decode prog_14_method_51_code 1 = .ok (.iload_n 1, 1) := by decide +kernel
theorem d_X12_agent_2 : decode prog_14_method_51_code 2 = .ok (.invokevirtual 406, 3) := by decide +kernel
theorem d_X12_agent_5 : decode prog_14_method_51_code 5 = .ok (.ifCond .eq 12, 3) := by decide +kernel
theorem d_X12_agent_8 : decode prog_14_method_51_code 8 = .ok (.aload_n 0, 1) := by decide +kernel
theorem d_X12_agent_9 : decode prog_14_method_51_code 9 = .ok (.getfield 49, 3) := by decide +kernel
theorem d_X12_agent_12 : decode prog_14_method_51_code 12 = .ok (.iload_n 1, 1) := by decide +kernel
theorem d_X12_agent_13 : decode prog_14_method_51_code 13 = .ok (.iaload, 1) := by decide +kernel
theorem d_X12_agent_14 : decode prog_14_method_51_code 14 = .ok (.goto 6, 3) := by decide +kernel
theorem d_X12_agent_17 : decode prog_14_method_51_code 17 = .ok (.sipush (-1001), 3) := by decide +kernel
theorem d_X12_agent_20 : decode prog_14_method_51_code 20 = .ok (.ireturn, 1) := by decide +kernel
theorem d_X12_agentMany_0 : decode prog_14_method_40_code 0 = .ok (.iconst 0, 1) := by decide +kernel
theorem d_X12_agentMany_1 : decode prog_14_method_40_code 1 = .ok (.istore_n 1, 1) := by decide +kernel
theorem d_X12_agentMany_2 : decode prog_14_method_40_code 2 = .ok (.iconst 0, 1) := by decide +kernel
theorem d_X12_agentMany_3 : decode prog_14_method_40_code 3 = .ok (.istore_n 2, 1) := by decide +kernel
theorem d_X12_agentMany_4 : decode prog_14_method_40_code 4 = .ok (.iload_n 2, 1) := by decide +kernel
theorem d_X12_agentMany_5 : decode prog_14_method_40_code 5 = .ok (.sipush 400, 3) := by decide +kernel
theorem d_X12_agentMany_8 : decode prog_14_method_40_code 8 = .ok (.if_icmp .ge 26, 3) := by decide +kernel
theorem d_X12_agentMany_11 : decode prog_14_method_40_code 11 = .ok (.iload_n 1, 1) := by decide +kernel
theorem d_X12_agentMany_12 : decode prog_14_method_40_code 12 = .ok (.aload_n 0, 1) := by decide +kernel
theorem d_X12_agentMany_13 : decode prog_14_method_40_code 13 = .ok (.getfield 49, 3) := by decide +kernel
theorem d_X12_agentMany_16 : decode prog_14_method_40_code 16 = .ok (.iload_n 2, 1) := by decide +kernel
theorem d_X12_agentMany_17 : decode prog_14_method_40_code 17 = .ok (.iaload, 1) := by decide +kernel
theorem d_X12_agentMany_18 : decode prog_14_method_40_code 18 = .ok (.ifCond .lt 7, 3) := by decide +kernel
theorem d_X12_agentMany_21 : decode prog_14_method_40_code 21 = .ok (.iconst 1, 1) := by decide +kernel
theorem d_X12_agentMany_22 : decode prog_14_method_40_code 22 = .ok (.goto 4, 3) := by decide +kernel
theorem d_X12_agentMany_25 : decode prog_14_method_40_code 25 = .ok (.iconst 0, 1) := by decide +kernel
theorem d_X12_agentMany_26 : decode prog_14_method_40_code 26 = .ok (.iadd, 1) := by decide +kernel
theorem d_X12_agentMany_27 : decode prog_14_method_40_code 27 = .ok (.istore_n 1, 1) := by decide +kernel
theorem d_X12_agentMany_28 : decode prog_14_method_40_code 28 = .ok (.iinc 2 1, 3) := by decide +kernel
theorem d_X12_agentMany_31 : decode prog_14_method_40_code 31 = .ok (.goto (-27), 3) := by decide +kernel
theorem d_X12_agentMany_34 : decode prog_14_method_40_code 34 = .ok (.iload_n 1, 1) := by decide +kernel
theorem d_X12_agentMany_35 : decode prog_14_method_40_code 35 = .ok (.ireturn, 1) := by decide +kernel
theorem d_X12_agentOf_0 : decode prog_14_method_71_code 0 = .ok (.iload_n 1, 1) := by decide +kernel
theorem d_X12_agentOf_1 : decode prog_14_method_71_code 1 = .ok (.ifCond .ne 12, 3) := by decide +kernel
theorem d_X12_agentOf_4 : decode prog_14_method_71_code 4 = .ok (.aload_n 0, 1) := by decide +kernel
theorem d_X12_agentOf_5 : decode prog_14_method_71_code 5 = .ok (.getfield 49, 3) := by decide +kernel
theorem d_X12_agentOf_8 : decode prog_14_method_71_code 8 = .ok (.iload_n 3, 1) := by decide +kernel
theorem d_X12_agentOf_9 : decode prog_14_method_71_code 9 = .ok (.iaload, 1) := by decide +kernel
theorem d_X12_agentOf_10 : decode prog_14_method_71_code 10 = .ok (.goto 15, 3) := by decide +kernel
theorem d_X12_agentOf_13 : decode prog_14_method_71_code 13 = .ok (.aload_n 0, 1) := by decide +kernel
theorem d_X12_agentOf_14 : decode prog_14_method_71_code 14 = .ok (.getfield 149, 3) := by decide +kernel
theorem d_X12_agentOf_17 : decode prog_14_method_71_code 17 = .ok (.sipush 400, 3) := by decide +kernel
theorem d_X12_agentOf_20 : decode prog_14_method_71_code 20 = .ok (.iload_n 2, 1) := by decide +kernel
theorem d_X12_agentOf_21 : decode prog_14_method_71_code 21 = .ok (.imul, 1) := by decide +kernel
theorem d_X12_agentOf_22 : decode prog_14_method_71_code 22 = .ok (.iload_n 3, 1) := by decide +kernel
