theorem d_X6_readKind_22 : decode prog_8_method_7_code 22 = .ok (.goto 81, 3) := by decide +kernel
theorem d_X6_readKind_25 : decode prog_8_method_7_code 25 = .ok (.aload_n 0, 1) := by decide +kernel
theorem d_X6_readKind_26 : decode prog_8_method_7_code 26 = .ok (.getfield 32, 3) := by decide +kernel
theorem d_X6_readKind_29 : decode prog_8_method_7_code 29 = .ok (.getfield 91, 3) := by decide +kernel
theorem d_X6_readKind_32 : decode prog_8_method_7_code 32 = .ok (.aload_n 0, 1) := by decide +kernel
theorem d_X6_readKind_33 : decode prog_8_method_7_code 33 = .ok (.getfield 25, 3) := by decide +kernel
theorem d_X6_readKind_36 : decode prog_8_method_7_code 36 = .ok (.getfield 81, 3) := by decide +kernel
theorem d_X6_readKind_39 : decode prog_8_method_7_code 39 = .ok (.invokevirtual 95, 3) := by decide +kernel
theorem d_X6_readKind_42 : decode prog_8_method_7_code 42 = .ok (.iconst (-1), 1) := by decide +kernel
theorem d_X6_readKind_43 : decode prog_8_method_7_code 43 = .ok (.if_icmp .eq 11, 3) := by decide +kernel
theorem d_X6_readKind_46 : decode prog_8_method_7_code 46 = .ok (.aload_n 0, 1) := by decide +kernel
theorem d_X6_readKind_47 : decode prog_8_method_7_code 47 = .ok (.iconst 3, 1) := by decide +kernel
theorem d_X6_readKind_48 : decode prog_8_method_7_code 48 = .ok (.invokevirtual 101, 3) := by decide +kernel
theorem d_X6_readKind_51 : decode prog_8_method_7_code 51 = .ok (.goto 52, 3) := by decide +kernel
theorem d_X6_readKind_54 : decode prog_8_method_7_code 54 = .ok (.aload_n 0, 1) := by decide +kernel
theorem d_X6_readKind_55 : decode prog_8_method_7_code 55 = .ok (.getfield 32, 3) := by decide +kernel
theorem d_X6_readKind_58 : decode prog_8_method_7_code 58 = .ok (.getfield 91, 3) := by decide +kernel
theorem d_X6_readKind_61 : decode prog_8_method_7_code 61 = .ok (.invokevirtual 105, 3) := by decide +kernel
theorem d_X6_readKind_64 : decode prog_8_method_7_code 64 = .ok (.ifCond .eq 11, 3) := by decide +kernel
theorem d_X6_readKind_67 : decode prog_8_method_7_code 67 = .ok (.aload_n 0, 1) := by decide +kernel
theorem d_X6_readKind_68 : decode prog_8_method_7_code 68 = .ok (.iconst 4, 1) := by decide +kernel
theorem d_X6_readKind_69 : decode prog_8_method_7_code 69 = .ok (.invokevirtual 101, 3) := by decide +kernel
theorem d_X6_readKind_72 : decode prog_8_method_7_code 72 = .ok (.goto 31, 3) := by decide +kernel
theorem d_X6_readKind_75 : decode prog_8_method_7_code 75 = .ok (.aload_n 0, 1) := by decide +kernel
theorem d_X6_readKind_76 : decode prog_8_method_7_code 76 = .ok (.getfield 32, 3) := by decide +kernel
theorem d_X6_readKind_79 : decode prog_8_method_7_code 79 = .ok (.getfield 91, 3) := by decide +kernel
theorem d_X6_readKind_82 : decode prog_8_method_7_code 82 = .ok (.aload_n 0, 1) := by decide +kernel
theorem d_X6_readKind_83 : decode prog_8_method_7_code 83 = .ok (.getfield 25, 3) := by decide +kernel
theorem d_X6_readKind_86 : decode prog_8_method_7_code 86 = .ok (.getfield 81, 3) := by decide +kernel
theorem d_X6_readKind_89 : decode prog_8_method_7_code 89 = .ok (.invokevirtual 109, 3) := by decide +kernel
theorem d_X6_readKind_92 : decode prog_8_method_7_code 92 = .ok (.aload_n 0, 1) := by decide +kernel
theorem d_X6_readKind_93 : decode prog_8_method_7_code 93 = .ok (.getfield 25, 3) := by decide +kernel
theorem d_X6_readKind_96 : decode prog_8_method_7_code 96 = .ok (.invokevirtual 88, 3) := by decide +kernel
theorem d_X6_readKind_99 : decode prog_8_method_7_code 99 = .ok (.aload_n 0, 1) := by decide +kernel
theorem d_X6_readKind_100 : decode prog_8_method_7_code 100 = .ok (.invokevirtual 113, 3) := by decide +kernel
theorem d_X6_readKind_103 : decode prog_8_method_7_code 103 = .ok (.return_, 1) := by decide +kernel
theorem d_X1_clear_0 : decode prog_3_method_2_code 0 = .ok (.aload_n 0, 1) := by decide +kernel
theorem d_X1_clear_1 : decode prog_3_method_2_code 1 = .ok (.getfield 11, 3) := by decide +kernel
theorem d_X1_clear_4 : decode prog_3_method_2_code 4 = .ok (.iconst (-1), 1) := by decide +kernel
theorem d_X1_clear_5 : decode prog_3_method_2_code 5 = .ok (.invokestatic 29, 3) := by decide +kernel
theorem d_X1_clear_8 : decode prog_3_method_2_code 8 = .ok (.aload_n 0, 1) := by decide +kernel
theorem d_X1_clear_9 : decode prog_3_method_2_code 9 = .ok (.iconst 0, 1) := by decide +kernel
theorem d_X1_clear_10 : decode prog_3_method_2_code 10 = .ok (.putfield 35, 3) := by decide +kernel
theorem d_X1_clear_13 : decode prog_3_method_2_code 13 = .ok (.aload_n 0, 1) := by decide +kernel
theorem d_X1_clear_14 : decode prog_3_method_2_code 14 = .ok (.iconst 0, 1) := by decide +kernel
theorem d_X1_clear_15 : decode prog_3_method_2_code 15 = .ok (.putfield 39, 3) := by decide +kernel
theorem d_X1_clear_18 : decode prog_3_method_2_code 18 = .ok (.aload_n 0, 1) := by decide +kernel
theorem d_X1_clear_19 : decode prog_3_method_2_code 19 = .ok (.iconst 0, 1) := by decide +kernel
theorem d_X1_clear_20 : decode prog_3_method_2_code 20 = .ok (.putfield 42, 3) := by decide +kernel
theorem d_X1_clear_23 : decode prog_3_method_2_code 23 = .ok (.return_, 1) := by decide +kernel
theorem d_X1_join_0 : decode prog_3_method_8_code 0 = .ok (.iload_n 1, 1) := by decide +kernel
theorem d_X1_join_1 : decode prog_3_method_8_code 1 = .ok (.sipush 1728, 3) := by decide +kernel
theorem d_X1_join_4 : decode prog_3_method_8_code 4 = .ok (.invokestatic 45, 3) := by decide +kernel
theorem d_X1_join_7 : decode prog_3_method_8_code 7 = .ok (.ifCond .eq 27, 3) := by decide +kernel
theorem d_X1_join_10 : decode prog_3_method_8_code 10 = .ok (.iload_n 2, 1) := by decide +kernel
theorem d_X1_join_11 : decode prog_3_method_8_code 11 = .ok (.sipush 1728, 3) := by decide +kernel
theorem d_X1_join_14 : decode prog_3_method_8_code 14 = .ok (.invokestatic 45, 3) := by decide +kernel
theorem d_X1_join_17 : decode prog_3_method_8_code 17 = .ok (.ifCond .eq 17, 3) := by decide +kernel
theorem d_X1_join_20 : decode prog_3_method_8_code 20 = .ok (.aload_n 0, 1) := by decide +kernel
theorem d_X1_join_21 : decode prog_3_method_8_code 21 = .ok (.getfield 11, 3) := by decide +kernel
theorem d_X1_join_24 : decode prog_3_method_8_code 24 = .ok (.iload_n 1, 1) := by decide +kernel
theorem d_X1_join_25 : decode prog_3_method_8_code 25 = .ok (.iload_n 2, 1) := by decide +kernel
theorem d_X1_join_26 : decode prog_3_method_8_code 26 = .ok (.iastore, 1) := by decide +kernel
theorem d_X1_join_27 : decode prog_3_method_8_code 27 = .ok (.aload_n 0, 1) := by decide +kernel
theorem d_X1_join_28 : decode prog_3_method_8_code 28 = .ok (.getfield 11, 3) := by decide +kernel
theorem d_X1_join_31 : decode prog_3_method_8_code 31 = .ok (.iload_n 2, 1) := by decide +kernel
theorem d_X1_join_32 : decode prog_3_method_8_code 32 = .ok (.iload_n 1, 1) := by decide +kernel
theorem d_X1_join_33 : decode prog_3_method_8_code 33 = .ok (.iastore, 1) := by decide +kernel
theorem d_X1_join_34 : decode prog_3_method_8_code 34 = .ok (.return_, 1) := by decide +kernel
theorem d_X1_stand_0 : decode prog_3_method_6_code 0 = .ok (.iload_n 1, 1) := by decide +kernel
theorem d_X1_stand_1 : decode prog_3_method_6_code 1 = .ok (.ifCond .lt 9, 3) := by decide +kernel
theorem d_X1_stand_4 : decode prog_3_method_6_code 4 = .ok (.iload_n 1, 1) := by decide +kernel
theorem d_X1_stand_5 : decode prog_3_method_6_code 5 = .ok (.bipush 60, 2) := by decide +kernel
theorem d_X1_stand_7 : decode prog_3_method_6_code 7 = .ok (.if_icmp .lt 5, 3) := by decide +kernel
theorem d_X1_stand_10 : decode prog_3_method_6_code 10 = .ok (.iconst (-1), 1) := by decide +kernel
theorem d_X1_stand_11 : decode prog_3_method_6_code 11 = .ok (.ireturn, 1) := by decide +kernel
theorem d_X1_stand_12 : decode prog_3_method_6_code 12 = .ok (.aload_n 0, 1) := by decide +kernel
theorem d_X1_stand_13 : decode prog_3_method_6_code 13 = .ok (.getfield 22, 3) := by decide +kernel
theorem d_X1_stand_16 : decode prog_3_method_6_code 16 = .ok (.iload_n 1, 1) := by decide +kernel
theorem d_X1_stand_17 : decode prog_3_method_6_code 17 = .ok (.dup2, 1) := by decide +kernel
theorem d_X1_stand_18 : decode prog_3_method_6_code 18 = .ok (.iaload, 1) := by decide +kernel
theorem d_X1_stand_19 : decode prog_3_method_6_code 19 = .ok (.iconst 1, 1) := by decide +kernel
theorem d_X1_stand_20 : decode prog_3_method_6_code 20 = .ok (.iadd, 1) := by decide +kernel
theorem d_X1_stand_21 : decode prog_3_method_6_code 21 = .ok (.iastore, 1) := by decide +kernel
theorem d_X1_stand_22 : decode prog_3_method_6_code 22 = .ok (.aload_n 0, 1) := by decide +kernel
theorem d_X1_stand_23 : decode prog_3_method_6_code 23 = .ok (.getfield 22, 3) := by decide +kernel
theorem d_X1_stand_26 : decode prog_3_method_6_code 26 = .ok (.iload_n 1, 1) := by decide +kernel
theorem d_X1_stand_27 : decode prog_3_method_6_code 27 = .ok (.iaload, 1) := by decide +kernel
theorem d_X1_stand_28 : decode prog_3_method_6_code 28 = .ok (.iconst 2, 1) := by decide +kernel
theorem d_X1_stand_29 : decode prog_3_method_6_code 29 = .ok (.if_icmp .gt 22, 3) := by decide +kernel
theorem d_X1_stand_32 : decode prog_3_method_6_code 32 = .ok (.sipush 1600, 3) := by decide +kernel
theorem d_X1_stand_35 : decode prog_3_method_6_code 35 = .ok (.iconst 2, 1) := by decide +kernel
theorem d_X1_stand_36 : decode prog_3_method_6_code 36 = .ok (.iload_n 1, 1) := by decide +kernel
theorem d_X1_stand_37 : decode prog_3_method_6_code 37 = .ok (.imul, 1) := by decide +kernel
theorem d_X1_stand_38 : decode prog_3_method_6_code 38 = .ok (.iadd, 1) := by decide +kernel
theorem d_X1_stand_39 : decode prog_3_method_6_code 39 = .ok (.aload_n 0, 1) := by decide +kernel
theorem d_X1_stand_40 : decode prog_3_method_6_code 40 = .ok (.getfield 22, 3) := by decide +kernel
theorem d_X1_stand_43 : decode prog_3_method_6_code 43 = .ok (.iload_n 1, 1) := by decide +kernel
theorem d_X1_stand_44 : decode prog_3_method_6_code 44 = .ok (.iaload, 1) := by decide +kernel
theorem d_X1_stand_45 : decode prog_3_method_6_code 45 = .ok (.iadd, 1) := by decide +kernel
theorem d_X1_stand_46 : decode prog_3_method_6_code 46 = .ok (.iconst 1, 1) := by decide +kernel
theorem d_X1_stand_47 : decode prog_3_method_6_code 47 = .ok (.isub, 1) := by decide +kernel
theorem d_X1_stand_48 : decode prog_3_method_6_code 48 = .ok (.goto 4, 3) := by decide +kernel
theorem d_X1_stand_51 : decode prog_3_method_6_code 51 = .ok (.iconst (-1), 1) := by decide +kernel
theorem d_X1_stand_52 : decode prog_3_method_6_code 52 = .ok (.ireturn, 1) := by decide +kernel
theorem d_X1_addEnds_0 : decode prog_3_method_9_code 0 = .ok (.iconst 0, 1) := by decide +kernel
theorem d_X1_addEnds_1 : decode prog_3_method_9_code 1 = .ok (.istore_n 1, 1) := by decide +kernel
theorem d_X1_addEnds_2 : decode prog_3_method_9_code 2 = .ok (.iload_n 1, 1) := by decide +kernel
theorem d_X1_addEnds_3 : decode prog_3_method_9_code 3 = .ok (.aload_n 0, 1) := by decide +kernel
theorem d_X1_addEnds_4 : decode prog_3_method_9_code 4 = .ok (.getfield 39, 3) := by decide +kernel
theorem d_X1_addEnds_7 : decode prog_3_method_9_code 7 = .ok (.if_icmp .ge 61, 3) := by decide +kernel
theorem d_X1_addEnds_10 : decode prog_3_method_9_code 10 = .ok (.iload_n 1, 1) := by decide +kernel
theorem d_X1_addEnds_11 : decode prog_3_method_9_code 11 = .ok (.bipush 60, 2) := by decide +kernel
theorem d_X1_addEnds_13 : decode prog_3_method_9_code 13 = .ok (.if_icmp .ge 55, 3) := by decide +kernel
theorem d_X1_addEnds_16 : decode prog_3_method_9_code 16 = .ok (.aload_n 0, 1) := by decide +kernel
theorem d_X1_addEnds_17 : decode prog_3_method_9_code 17 = .ok (.getfield 22, 3) := by decide +kernel
theorem d_X1_addEnds_20 : decode prog_3_method_9_code 20 = .ok (.iload_n 1, 1) := by decide +kernel
theorem d_X1_addEnds_21 : decode prog_3_method_9_code 21 = .ok (.iaload, 1) := by decide +kernel
theorem d_X1_addEnds_22 : decode prog_3_method_9_code 22 = .ok (.iconst 1, 1) := by decide +kernel
theorem d_X1_addEnds_23 : decode prog_3_method_9_code 23 = .ok (.if_icmp .ne 39, 3) := by decide +kernel
theorem d_X1_addEnds_26 : decode prog_3_method_9_code 26 = .ok (.aload_n 0, 1) := by decide +kernel
theorem d_X1_addEnds_27 : decode prog_3_method_9_code 27 = .ok (.getfield 42, 3) := by decide +kernel
theorem d_X1_addEnds_30 : decode prog_3_method_9_code 30 = .ok (.bipush 8, 2) := by decide +kernel
theorem d_X1_addEnds_32 : decode prog_3_method_9_code 32 = .ok (.if_icmp .ge 20, 3) := by decide +kernel
theorem d_X1_addEnds_35 : decode prog_3_method_9_code 35 = .ok (.aload_n 0, 1) := by decide +kernel
theorem d_X1_addEnds_36 : decode prog_3_method_9_code 36 = .ok (.sipush 1720, 3) := by decide +kernel
theorem d_X1_addEnds_39 : decode prog_3_method_9_code 39 = .ok (.aload_n 0, 1) := by decide +kernel
theorem d_X1_addEnds_40 : decode prog_3_method_9_code 40 = .ok (.getfield 42, 3) := by decide +kernel
theorem d_X1_addEnds_43 : decode prog_3_method_9_code 43 = .ok (.iadd, 1) := by decide +kernel
theorem d_X1_addEnds_44 : decode prog_3_method_9_code 44 = .ok (.aload_n 0, 1) := by decide +kernel
theorem d_X1_addEnds_45 : decode prog_3_method_9_code 45 = .ok (.iload_n 1, 1) := by decide +kernel
theorem d_X1_addEnds_46 : decode prog_3_method_9_code 46 = .ok (.invokevirtual 49, 3) := by decide +kernel
theorem d_X1_addEnds_49 : decode prog_3_method_9_code 49 = .ok (.invokevirtual 53, 3) := by decide +kernel
theorem d_X1_addEnds_52 : decode prog_3_method_9_code 52 = .ok (.aload_n 0, 1) := by decide +kernel
theorem d_X1_addEnds_53 : decode prog_3_method_9_code 53 = .ok (.dup, 1) := by decide +kernel
theorem d_X1_addEnds_54 : decode prog_3_method_9_code 54 = .ok (.getfield 42, 3) := by decide +kernel
theorem d_X1_addEnds_57 : decode prog_3_method_9_code 57 = .ok (.iconst 1, 1) := by decide +kernel
theorem d_X1_addEnds_58 : decode prog_3_method_9_code 58 = .ok (.iadd, 1) := by decide +kernel
theorem d_X1_addEnds_59 : decode prog_3_method_9_code 59 = .ok (.putfield 42, 3) := by decide +kernel
theorem d_X1_addEnds_62 : decode prog_3_method_9_code 62 = .ok (.iinc 1 1, 3) := by decide +kernel
theorem d_X1_addEnds_65 : decode prog_3_method_9_code 65 = .ok (.goto (-63), 3) := by decide +kernel
theorem d_X1_addEnds_68 : decode prog_3_method_9_code 68 = .ok (.return_, 1) := by decide +kernel
theorem d_X1_hasNameStanding_0 : decode prog_3_method_7_code 0 = .ok (.iconst 0, 1) := by decide +kernel
theorem d_X1_hasNameStanding_1 : decode prog_3_method_7_code 1 = .ok (.istore_n 3, 1) := by decide +kernel
theorem d_X1_hasNameStanding_2 : decode prog_3_method_7_code 2 = .ok (.iload_n 3, 1) := by decide +kernel
theorem d_X1_hasNameStanding_3 : decode prog_3_method_7_code 3 = .ok (.aload_n 0, 1) := by decide +kernel
theorem d_X1_hasNameStanding_4 : decode prog_3_method_7_code 4 = .ok (.getfield 39, 3) := by decide +kernel
theorem d_X1_hasNameStanding_7 : decode prog_3_method_7_code 7 = .ok (.if_icmp .ge 37, 3) := by decide +kernel
theorem d_X1_hasNameStanding_10 : decode prog_3_method_7_code 10 = .ok (.iload_n 3, 1) := by decide +kernel
theorem d_X1_hasNameStanding_11 : decode prog_3_method_7_code 11 = .ok (.bipush 60, 2) := by decide +kernel
theorem d_X1_hasNameStanding_13 : decode prog_3_method_7_code 13 = .ok (.if_icmp .ge 31, 3) := by decide +kernel
theorem d_X1_hasNameStanding_16 : decode prog_3_method_7_code 16 = .ok (.aload_n 0, 1) := by decide +kernel
theorem d_X1_hasNameStanding_17 : decode prog_3_method_7_code 17 = .ok (.getfield 22, 3) := by decide +kernel
theorem d_X1_hasNameStanding_20 : decode prog_3_method_7_code 20 = .ok (.iload_n 3, 1) := by decide +kernel
theorem d_X1_hasNameStanding_21 : decode prog_3_method_7_code 21 = .ok (.iaload, 1) := by decide +kernel
theorem d_X1_hasNameStanding_22 : decode prog_3_method_7_code 22 = .ok (.iload_n 1, 1) := by decide +kernel
theorem d_X1_hasNameStanding_23 : decode prog_3_method_7_code 23 = .ok (.if_icmp .lt 15, 3) := by decide +kernel
theorem d_X1_hasNameStanding_26 : decode prog_3_method_7_code 26 = .ok (.aload_n 0, 1) := by decide +kernel
theorem d_X1_hasNameStanding_27 : decode prog_3_method_7_code 27 = .ok (.getfield 22, 3) := by decide +kernel
theorem d_X1_hasNameStanding_30 : decode prog_3_method_7_code 30 = .ok (.iload_n 3, 1) := by decide +kernel
theorem d_X1_hasNameStanding_31 : decode prog_3_method_7_code 31 = .ok (.iaload, 1) := by decide +kernel
theorem d_X1_hasNameStanding_32 : decode prog_3_method_7_code 32 = .ok (.iload_n 2, 1) := by decide +kernel
theorem d_X1_hasNameStanding_33 : decode prog_3_method_7_code 33 = .ok (.if_icmp .gt 5, 3) := by decide +kernel
theorem d_X1_hasNameStanding_36 : decode prog_3_method_7_code 36 = .ok (.iconst 1, 1) := by decide +kernel
theorem d_X1_hasNameStanding_37 : decode prog_3_method_7_code 37 = .ok (.ireturn, 1) := by decide +kernel
theorem d_X1_hasNameStanding_38 : decode prog_3_method_7_code 38 = .ok (.iinc 3 1, 3) := by decide +kernel
theorem d_X1_hasNameStanding_41 : decode prog_3_method_7_code 41 = .ok (.goto (-39), 3) := by decide +kernel
theorem d_X1_hasNameStanding_44 : decode prog_3_method_7_code 44 = .ok (.iconst 0, 1) := by decide +kernel
theorem d_X1_hasNameStanding_45 : decode prog_3_method_7_code 45 = .ok (.ireturn, 1) := by decide +kernel
theorem d_X1_isStanding_0 : decode prog_3_method_11_code 0 = .ok (.iload_n 0, 1) := by decide +kernel
theorem d_X1_isStanding_1 : decode prog_3_method_11_code 1 = .ok (.sipush 1600, 3) := by decide +kernel
theorem d_X1_isStanding_4 : decode prog_3_method_11_code 4 = .ok (.if_icmp .lt 14, 3) := by decide +kernel
theorem d_X1_isStanding_7 : decode prog_3_method_11_code 7 = .ok (.iload_n 0, 1) := by decide +kernel
theorem d_X1_isStanding_8 : decode prog_3_method_11_code 8 = .ok (.sipush 1720, 3) := by decide +kernel
theorem d_X1_isStanding_11 : decode prog_3_method_11_code 11 = .ok (.if_icmp .ge 7, 3) := by decide +kernel
theorem d_X1_isStanding_14 : decode prog_3_method_11_code 14 = .ok (.iconst 1, 1) := by decide +kernel
theorem d_X1_isStanding_15 : decode prog_3_method_11_code 15 = .ok (.goto 4, 3) := by decide +kernel
theorem d_X1_isStanding_18 : decode prog_3_method_11_code 18 = .ok (.iconst 0, 1) := by decide +kernel
theorem d_X1_isStanding_19 : decode prog_3_method_11_code 19 = .ok (.ireturn, 1) := by decide +kernel
theorem d_X1_passName_0 : decode prog_3_method_13_code 0 = .ok (.iload_n 1, 1) := by decide +kernel
theorem d_X1_passName_1 : decode prog_3_method_13_code 1 = .ok (.sipush 1600, 3) := by decide +kernel
theorem d_X1_passName_4 : decode prog_3_method_13_code 4 = .ok (.isub, 1) := by decide +kernel
theorem d_X1_passName_5 : decode prog_3_method_13_code 5 = .ok (.istore_n 2, 1) := by decide +kernel
theorem d_X1_passName_6 : decode prog_3_method_13_code 6 = .ok (.iload_n 2, 1) := by decide +kernel
theorem d_X1_passName_7 : decode prog_3_method_13_code 7 = .ok (.ifCond .lt 9, 3) := by decide +kernel
theorem d_X1_passName_10 : decode prog_3_method_13_code 10 = .ok (.iload_n 2, 1) := by decide +kernel
theorem d_X1_passName_11 : decode prog_3_method_13_code 11 = .ok (.bipush 120, 2) := by decide +kernel
theorem d_X1_passName_13 : decode prog_3_method_13_code 13 = .ok (.if_icmp .lt 5, 3) := by decide +kernel
theorem d_X1_passName_16 : decode prog_3_method_13_code 16 = .ok (.iconst (-1), 1) := by decide +kernel
theorem d_X1_passName_17 : decode prog_3_method_13_code 17 = .ok (.ireturn, 1) := by decide +kernel
theorem d_X1_passName_18 : decode prog_3_method_13_code 18 = .ok (.aload_n 0, 1) := by decide +kernel
theorem d_X1_passName_19 : decode prog_3_method_13_code 19 = .ok (.getfield 25, 3) := by decide +kernel
theorem d_X1_passName_22 : decode prog_3_method_13_code 22 = .ok (.iload_n 2, 1) := by decide +kernel
theorem d_X1_passName_23 : decode prog_3_method_13_code 23 = .ok (.iconst 1, 1) := by decide +kernel
theorem d_X1_passName_24 : decode prog_3_method_13_code 24 = .ok (.ishr, 1) := by decide +kernel
theorem d_X1_passName_25 : decode prog_3_method_13_code 25 = .ok (.iconst 1, 1) := by decide +kernel
theorem d_X1_passName_26 : decode prog_3_method_13_code 26 = .ok (.bastore, 1) := by decide +kernel
theorem d_X1_passName_27 : decode prog_3_method_13_code 27 = .ok (.aload_n 0, 1) := by decide +kernel
theorem d_X1_passName_28 : decode prog_3_method_13_code 28 = .ok (.getfield 11, 3) := by decide +kernel
theorem d_X1_passName_31 : decode prog_3_method_13_code 31 = .ok (.sipush 1600, 3) := by decide +kernel
theorem d_X1_passName_34 : decode prog_3_method_13_code 34 = .ok (.iload_n 2, 1) := by decide +kernel
theorem d_X1_passName_35 : decode prog_3_method_13_code 35 = .ok (.iconst 1, 1) := by decide +kernel
theorem d_X1_passName_36 : decode prog_3_method_13_code 36 = .ok (.ixor, 1) := by decide +kernel
theorem d_X1_passName_37 : decode prog_3_method_13_code 37 = .ok (.iadd, 1) := by decide +kernel
theorem d_X1_passName_38 : decode prog_3_method_13_code 38 = .ok (.iaload, 1) := by decide +kernel
theorem d_X1_passName_39 : decode prog_3_method_13_code 39 = .ok (.ireturn, 1) := by decide +kernel
theorem d_X1_farCode_0 : decode prog_3_method_12_code 0 = .ok (.iload_n 1, 1) := by decide +kernel
theorem d_X1_farCode_1 : decode prog_3_method_12_code 1 = .ok (.sipush 1728, 3) := by decide +kernel
theorem d_X1_farCode_4 : decode prog_3_method_12_code 4 = .ok (.invokestatic 45, 3) := by decide +kernel
theorem d_X1_farCode_7 : decode prog_3_method_12_code 7 = .ok (.ifCond .eq 12, 3) := by decide +kernel
theorem d_X1_farCode_10 : decode prog_3_method_12_code 10 = .ok (.aload_n 0, 1) := by decide +kernel
theorem d_X1_farCode_11 : decode prog_3_method_12_code 11 = .ok (.getfield 11, 3) := by decide +kernel
theorem d_X1_farCode_14 : decode prog_3_method_12_code 14 = .ok (.iload_n 1, 1) := by decide +kernel
theorem d_X1_farCode_15 : decode prog_3_method_12_code 15 = .ok (.iaload, 1) := by decide +kernel
theorem d_X1_farCode_16 : decode prog_3_method_12_code 16 = .ok (.goto 4, 3) := by decide +kernel
theorem d_X1_farCode_19 : decode prog_3_method_12_code 19 = .ok (.iconst (-1), 1) := by decide +kernel
theorem d_X1_farCode_20 : decode prog_3_method_12_code 20 = .ok (.istore_n 2, 1) := by decide +kernel
theorem d_X1_farCode_21 : decode prog_3_method_12_code 21 = .ok (.iconst 0, 1) := by decide +kernel
theorem d_X1_farCode_22 : decode prog_3_method_12_code 22 = .ok (.istore_n 3, 1) := by decide +kernel
theorem d_X1_farCode_23 : decode prog_3_method_12_code 23 = .ok (.iload_n 3, 1) := by decide +kernel
theorem d_X1_farCode_24 : decode prog_3_method_12_code 24 = .ok (.bipush 60, 2) := by decide +kernel
theorem d_X1_farCode_26 : decode prog_3_method_12_code 26 = .ok (.if_icmp .ge 22, 3) := by decide +kernel
theorem d_X1_farCode_29 : decode prog_3_method_12_code 29 = .ok (.iload_n 2, 1) := by decide +kernel
theorem d_X1_farCode_30 : decode prog_3_method_12_code 30 = .ok (.invokestatic 57, 3) := by decide +kernel
theorem d_X1_farCode_33 : decode prog_3_method_12_code 33 = .ok (.ifCond .eq 15, 3) := by decide +kernel
theorem d_X1_farCode_36 : decode prog_3_method_12_code 36 = .ok (.aload_n 0, 1) := by decide +kernel
theorem d_X1_farCode_37 : decode prog_3_method_12_code 37 = .ok (.iload_n 2, 1) := by decide +kernel
theorem d_X1_farCode_38 : decode prog_3_method_12_code 38 = .ok (.invokevirtual 61, 3) := by decide +kernel
theorem d_X1_farCode_41 : decode prog_3_method_12_code 41 = .ok (.istore_n 2, 1) := by decide +kernel
theorem d_X1_farCode_42 : decode prog_3_method_12_code 42 = .ok (.iinc 3 1, 3) := by decide +kernel
theorem d_X1_farCode_45 : decode prog_3_method_12_code 45 = .ok (.goto (-22), 3) := by decide +kernel
theorem d_X1_farCode_48 : decode prog_3_method_12_code 48 = .ok (.iload_n 2, 1) := by decide +kernel
theorem d_X1_farCode_49 : decode prog_3_method_12_code 49 = .ok (.sipush 1720, 3) := by decide +kernel
theorem d_X1_farCode_52 : decode prog_3_method_12_code 52 = .ok (.if_icmp .lt 14, 3) := by decide +kernel
theorem d_X1_farCode_55 : decode prog_3_method_12_code 55 = .ok (.iload_n 2, 1) := by decide +kernel
theorem d_X1_farCode_56 : decode prog_3_method_12_code 56 = .ok (.sipush 1720, 3) := by decide +kernel
theorem d_X1_farCode_59 : decode prog_3_method_12_code 59 = .ok (.isub, 1) := by decide +kernel
theorem d_X1_farCode_60 : decode prog_3_method_12_code 60 = .ok (.invokestatic 64, 3) := by decide +kernel
theorem d_X1_farCode_63 : decode prog_3_method_12_code 63 = .ok (.goto 4, 3) := by decide +kernel
theorem d_X1_farCode_66 : decode prog_3_method_12_code 66 = .ok (.iload_n 2, 1) := by decide +kernel
theorem d_X1_farCode_67 : decode prog_3_method_12_code 67 = .ok (.ireturn, 1) := by decide +kernel
theorem d_X1_kindOf_0 : decode prog_3_method_4_code 0 = .ok (.iload_n 1, 1) := by decide +kernel
theorem d_X1_kindOf_1 : decode prog_3_method_4_code 1 = .ok (.ifCond .lt 27, 3) := by decide +kernel
theorem d_X1_kindOf_4 : decode prog_3_method_4_code 4 = .ok (.iload_n 1, 1) := by decide +kernel
theorem d_X1_kindOf_5 : decode prog_3_method_4_code 5 = .ok (.aload_n 0, 1) := by decide +kernel
theorem d_X1_kindOf_6 : decode prog_3_method_4_code 6 = .ok (.getfield 35, 3) := by decide +kernel
theorem d_X1_kindOf_9 : decode prog_3_method_4_code 9 = .ok (.if_icmp .ge 19, 3) := by decide +kernel
theorem d_X1_kindOf_12 : decode prog_3_method_4_code 12 = .ok (.iload_n 1, 1) := by decide +kernel
theorem d_X1_kindOf_13 : decode prog_3_method_4_code 13 = .ok (.sipush 200, 3) := by decide +kernel
theorem d_X1_kindOf_16 : decode prog_3_method_4_code 16 = .ok (.if_icmp .ge 12, 3) := by decide +kernel
theorem d_X1_kindOf_19 : decode prog_3_method_4_code 19 = .ok (.aload_n 0, 1) := by decide +kernel
theorem d_X1_kindOf_20 : decode prog_3_method_4_code 20 = .ok (.getfield 15, 3) := by decide +kernel
theorem d_X1_kindOf_23 : decode prog_3_method_4_code 23 = .ok (.iload_n 1, 1) := by decide +kernel
theorem d_X1_kindOf_24 : decode prog_3_method_4_code 24 = .ok (.iaload, 1) := by decide +kernel
theorem d_X1_kindOf_25 : decode prog_3_method_4_code 25 = .ok (.goto 4, 3) := by decide +kernel
theorem d_X1_kindOf_28 : decode prog_3_method_4_code 28 = .ok (.iconst (-1), 1) := by decide +kernel
theorem d_X1_kindOf_29 : decode prog_3_method_4_code 29 = .ok (.ireturn, 1) := by decide +kernel
theorem d_X6_slotKind_0 : decode prog_8_method_24_code 0 = .ok (.aload_n 0, 1) := by decide +kernel
theorem d_X6_slotKind_1 : decode prog_8_method_24_code 1 = .ok (.getfield 18, 3) := by decide +kernel
theorem d_X6_slotKind_4 : decode prog_8_method_24_code 4 = .ok (.iload_n 1, 1) := by decide +kernel
theorem d_X6_slotKind_5 : decode prog_8_method_24_code 5 = .ok (.iconst 4, 1) := by decide +kernel
theorem d_X6_slotKind_6 : decode prog_8_method_24_code 6 = .ok (.if_icmp .ge 7, 3) := by decide +kernel
theorem d_X6_slotKind_9 : decode prog_8_method_24_code 9 = .ok (.iconst 0, 1) := by decide +kernel
theorem d_X6_slotKind_10 : decode prog_8_method_24_code 10 = .ok (.goto 4, 3) := by decide +kernel
theorem d_X6_slotKind_13 : decode prog_8_method_24_code 13 = .ok (.iconst 1, 1) := by decide +kernel
theorem d_X6_slotKind_14 : decode prog_8_method_24_code 14 = .ok (.iaload, 1) := by decide +kernel
theorem d_X6_slotKind_15 : decode prog_8_method_24_code 15 = .ok (.ireturn, 1) := by decide +kernel
theorem d_X6_slotPort_0 : decode prog_8_method_25_code 0 = .ok (.iload_n 0, 1) := by decide +kernel
theorem d_X6_slotPort_1 : decode prog_8_method_25_code 1 = .ok (.iconst 4, 1) := by decide +kernel
theorem d_X6_slotPort_2 : decode prog_8_method_25_code 2 = .ok (.if_icmp .ge 7, 3) := by decide +kernel
theorem d_X6_slotPort_5 : decode prog_8_method_25_code 5 = .ok (.iload_n 0, 1) := by decide +kernel
theorem d_X6_slotPort_6 : decode prog_8_method_25_code 6 = .ok (.goto 6, 3) := by decide +kernel
theorem d_X6_slotPort_9 : decode prog_8_method_25_code 9 = .ok (.iload_n 0, 1) := by decide +kernel
theorem d_X6_slotPort_10 : decode prog_8_method_25_code 10 = .ok (.iconst 4, 1) := by decide +kernel
theorem d_X6_slotPort_11 : decode prog_8_method_25_code 11 = .ok (.isub, 1) := by decide +kernel
theorem d_X6_slotPort_12 : decode prog_8_method_25_code 12 = .ok (.iconst 1, 1) := by decide +kernel
theorem d_X6_slotPort_13 : decode prog_8_method_25_code 13 = .ok (.iadd, 1) := by decide +kernel
theorem d_X6_slotPort_14 : decode prog_8_method_25_code 14 = .ok (.ireturn, 1) := by decide +kernel
theorem d_X6_slotSort_0 : decode prog_8_method_27_code 0 = .ok (.aload_n 0, 1) := by decide +kernel
theorem d_X6_slotSort_1 : decode prog_8_method_27_code 1 = .ok (.getfield 32, 3) := by decide +kernel
theorem d_X6_slotSort_4 : decode prog_8_method_27_code 4 = .ok (.getfield 91, 3) := by decide +kernel
theorem d_X6_slotSort_7 : decode prog_8_method_27_code 7 = .ok (.aload_n 0, 1) := by decide +kernel
theorem d_X6_slotSort_8 : decode prog_8_method_27_code 8 = .ok (.iload_n 1, 1) := by decide +kernel
theorem d_X6_slotSort_9 : decode prog_8_method_27_code 9 = .ok (.invokevirtual 250, 3) := by decide +kernel
theorem d_X6_slotSort_12 : decode prog_8_method_27_code 12 = .ok (.iload_n 1, 1) := by decide +kernel
theorem d_X6_slotSort_13 : decode prog_8_method_27_code 13 = .ok (.invokestatic 253, 3) := by decide +kernel
theorem d_X6_slotSort_16 : decode prog_8_method_27_code 16 = .ok (.invokevirtual 225, 3) := by decide +kernel
theorem d_X6_slotSort_19 : decode prog_8_method_27_code 19 = .ok (.iconst (-1), 1) := by decide +kernel
theorem d_X6_slotSort_20 : decode prog_8_method_27_code 20 = .ok (.ixor, 1) := by decide +kernel
theorem d_X6_slotSort_21 : decode prog_8_method_27_code 21 = .ok (.ireturn, 1) := by decide +kernel
theorem d_X6_fits_0 : decode prog_8_method_23_code 0 = .ok (.iload_n 2, 1) := by decide +kernel
theorem d_X6_fits_1 : decode prog_8_method_23_code 1 = .ok (.ifCond .lt 40, 3) := by decide +kernel
theorem d_X6_fits_4 : decode prog_8_method_23_code 4 = .ok (.iload_n 1, 1) := by decide +kernel
theorem d_X6_fits_5 : decode prog_8_method_23_code 5 = .ok (.aload_n 0, 1) := by decide +kernel
theorem d_X6_fits_6 : decode prog_8_method_23_code 6 = .ok (.getfield 32, 3) := by decide +kernel
theorem d_X6_fits_9 : decode prog_8_method_23_code 9 = .ok (.getfield 91, 3) := by decide +kernel
theorem d_X6_fits_12 : decode prog_8_method_23_code 12 = .ok (.aload_n 0, 1) := by decide +kernel
theorem d_X6_fits_13 : decode prog_8_method_23_code 13 = .ok (.getfield 12, 3) := by decide +kernel
theorem d_X6_fits_16 : decode prog_8_method_23_code 16 = .ok (.iload_n 2, 1) := by decide +kernel
theorem d_X6_fits_17 : decode prog_8_method_23_code 17 = .ok (.invokestatic 241, 3) := by decide +kernel
theorem d_X6_fits_20 : decode prog_8_method_23_code 20 = .ok (.invokevirtual 222, 3) := by decide +kernel
theorem d_X6_fits_23 : decode prog_8_method_23_code 23 = .ok (.iload_n 2, 1) := by decide +kernel
theorem d_X6_fits_24 : decode prog_8_method_23_code 24 = .ok (.invokestatic 244, 3) := by decide +kernel
theorem d_X6_fits_27 : decode prog_8_method_23_code 27 = .ok (.invokevirtual 225, 3) := by decide +kernel
theorem d_X6_fits_30 : decode prog_8_method_23_code 30 = .ok (.iconst (-1), 1) := by decide +kernel
theorem d_X6_fits_31 : decode prog_8_method_23_code 31 = .ok (.ixor, 1) := by decide +kernel
theorem d_X6_fits_32 : decode prog_8_method_23_code 32 = .ok (.if_icmp .ne 7, 3) := by decide +kernel
theorem d_X6_fits_35 : decode prog_8_method_23_code 35 = .ok (.iconst 1, 1) := by decide +kernel
theorem d_X6_fits_36 : decode prog_8_method_23_code 36 = .ok (.goto 4, 3) := by decide +kernel
theorem d_X6_fits_39 : decode prog_8_method_23_code 39 = .ok (.iconst 0, 1) := by decide +kernel
theorem d_X6_fits_40 : decode prog_8_method_23_code 40 = .ok (.ireturn, 1) := by decide +kernel
theorem d_X6_fits_41 : decode prog_8_method_23_code 41 = .ok (.aload_n 0, 1) := by decide +kernel
theorem d_X6_fits_42 : decode prog_8_method_23_code 42 = .ok (.getfield 137, 3) := by decide +kernel
theorem d_X6_fits_45 : decode prog_8_method_23_code 45 = .ok (.ifCond .eq 17, 3) := by decide +kernel
theorem d_X6_fits_48 : decode prog_8_method_23_code 48 = .ok (.iload_n 1, 1) := by decide +kernel
theorem d_X6_fits_49 : decode prog_8_method_23_code 49 = .ok (.aload_n 0, 1) := by decide +kernel
theorem d_X6_fits_50 : decode prog_8_method_23_code 50 = .ok (.iload_n 2, 1) := by decide +kernel
theorem d_X6_fits_51 : decode prog_8_method_23_code 51 = .ok (.invokestatic 247, 3) := by decide +kernel
theorem d_X6_fits_54 : decode prog_8_method_23_code 54 = .ok (.invokevirtual 238, 3) := by decide +kernel
theorem d_X6_fits_57 : decode prog_8_method_23_code 57 = .ok (.iconst (-1), 1) := by decide +kernel
theorem d_X6_fits_58 : decode prog_8_method_23_code 58 = .ok (.ixor, 1) := by decide +kernel
theorem d_X6_fits_59 : decode prog_8_method_23_code 59 = .ok (.if_icmp .ne 7, 3) := by decide +kernel
theorem d_X6_fits_62 : decode prog_8_method_23_code 62 = .ok (.iconst 1, 1) := by decide +kernel
theorem d_X6_fits_63 : decode prog_8_method_23_code 63 = .ok (.goto 4, 3) := by decide +kernel
theorem d_X6_fits_66 : decode prog_8_method_23_code 66 = .ok (.iconst 0, 1) := by decide +kernel
theorem d_X6_fits_67 : decode prog_8_method_23_code 67 = .ok (.ireturn, 1) := by decide +kernel
theorem d_X6_agentsFit_0 : decode prog_8_method_21_code 0 = .ok (.iconst 0, 1) := by decide +kernel
theorem d_X6_agentsFit_1 : decode prog_8_method_21_code 1 = .ok (.istore_n 1, 1) := by decide +kernel
theorem d_X6_agentsFit_2 : decode prog_8_method_21_code 2 = .ok (.iload_n 1, 1) := by decide +kernel
theorem d_X6_agentsFit_3 : decode prog_8_method_21_code 3 = .ok (.aload_n 0, 1) := by decide +kernel
theorem d_X6_agentsFit_4 : decode prog_8_method_21_code 4 = .ok (.getfield 12, 3) := by decide +kernel
theorem d_X6_agentsFit_7 : decode prog_8_method_21_code 7 = .ok (.getfield 176, 3) := by decide +kernel
theorem d_X6_agentsFit_10 : decode prog_8_method_21_code 10 = .ok (.if_icmp .ge 81, 3) := by decide +kernel
theorem d_X6_agentsFit_13 : decode prog_8_method_21_code 13 = .ok (.aload_n 0, 1) := by decide +kernel
theorem d_X6_agentsFit_14 : decode prog_8_method_21_code 14 = .ok (.getfield 32, 3) := by decide +kernel
theorem d_X6_agentsFit_17 : decode prog_8_method_21_code 17 = .ok (.getfield 91, 3) := by decide +kernel
theorem d_X6_agentsFit_20 : decode prog_8_method_21_code 20 = .ok (.aload_n 0, 1) := by decide +kernel
theorem d_X6_agentsFit_21 : decode prog_8_method_21_code 21 = .ok (.getfield 12, 3) := by decide +kernel
theorem d_X6_agentsFit_24 : decode prog_8_method_21_code 24 = .ok (.iload_n 1, 1) := by decide +kernel
theorem d_X6_agentsFit_25 : decode prog_8_method_21_code 25 = .ok (.invokevirtual 222, 3) := by decide +kernel
theorem d_X6_agentsFit_28 : decode prog_8_method_21_code 28 = .ok (.invokevirtual 167, 3) := by decide +kernel
theorem d_X6_agentsFit_31 : decode prog_8_method_21_code 31 = .ok (.istore_n 2, 1) := by decide +kernel
theorem d_X6_agentsFit_32 : decode prog_8_method_21_code 32 = .ok (.iconst 0, 1) := by decide +kernel
theorem d_X6_agentsFit_33 : decode prog_8_method_21_code 33 = .ok (.istore_n 3, 1) := by decide +kernel
theorem d_X6_agentsFit_34 : decode prog_8_method_21_code 34 = .ok (.iload_n 3, 1) := by decide +kernel
theorem d_X6_agentsFit_35 : decode prog_8_method_21_code 35 = .ok (.iload_n 2, 1) := by decide +kernel
theorem d_X6_agentsFit_36 : decode prog_8_method_21_code 36 = .ok (.if_icmp .ge 49, 3) := by decide +kernel
theorem d_X6_agentsFit_39 : decode prog_8_method_21_code 39 = .ok (.aload_n 0, 1) := by decide +kernel
theorem d_X6_agentsFit_40 : decode prog_8_method_21_code 40 = .ok (.aload_n 0, 1) := by decide +kernel
theorem d_X6_agentsFit_41 : decode prog_8_method_21_code 41 = .ok (.getfield 32, 3) := by decide +kernel
theorem d_X6_agentsFit_44 : decode prog_8_method_21_code 44 = .ok (.getfield 91, 3) := by decide +kernel
theorem d_X6_agentsFit_47 : decode prog_8_method_21_code 47 = .ok (.aload_n 0, 1) := by decide +kernel
theorem d_X6_agentsFit_48 : decode prog_8_method_21_code 48 = .ok (.getfield 12, 3) := by decide +kernel
theorem d_X6_agentsFit_51 : decode prog_8_method_21_code 51 = .ok (.iload_n 1, 1) := by decide +kernel
theorem d_X6_agentsFit_52 : decode prog_8_method_21_code 52 = .ok (.invokevirtual 222, 3) := by decide +kernel
theorem d_X6_agentsFit_55 : decode prog_8_method_21_code 55 = .ok (.iload_n 3, 1) := by decide +kernel
theorem d_X6_agentsFit_56 : decode prog_8_method_21_code 56 = .ok (.invokevirtual 225, 3) := by decide +kernel
theorem d_X6_agentsFit_59 : decode prog_8_method_21_code 59 = .ok (.aload_n 0, 1) := by decide +kernel
theorem d_X6_agentsFit_60 : decode prog_8_method_21_code 60 = .ok (.getfield 12, 3) := by decide +kernel
theorem d_X6_agentsFit_63 : decode prog_8_method_21_code 63 = .ok (.iload_n 1, 1) := by decide +kernel
theorem d_X6_agentsFit_64 : decode prog_8_method_21_code 64 = .ok (.iload_n 3, 1) := by decide +kernel
theorem d_X6_agentsFit_65 : decode prog_8_method_21_code 65 = .ok (.invokestatic 186, 3) := by decide +kernel
theorem d_X6_agentsFit_68 : decode prog_8_method_21_code 68 = .ok (.invokevirtual 228, 3) := by decide +kernel
theorem d_X6_agentsFit_71 : decode prog_8_method_21_code 71 = .ok (.invokevirtual 231, 3) := by decide +kernel
theorem d_X6_agentsFit_74 : decode prog_8_method_21_code 74 = .ok (.ifCond .ne 5, 3) := by decide +kernel
theorem d_X6_agentsFit_77 : decode prog_8_method_21_code 77 = .ok (.iconst 0, 1) := by decide +kernel
theorem d_X6_agentsFit_78 : decode prog_8_method_21_code 78 = .ok (.ireturn, 1) := by decide +kernel
theorem d_X6_agentsFit_79 : decode prog_8_method_21_code 79 = .ok (.iinc 3 1, 3) := by decide +kernel
theorem d_X6_agentsFit_82 : decode prog_8_method_21_code 82 = .ok (.goto (-48), 3) := by decide +kernel
theorem d_X6_agentsFit_85 : decode prog_8_method_21_code 85 = .ok (.iinc 1 1, 3) := by decide +kernel
theorem d_X6_agentsFit_88 : decode prog_8_method_21_code 88 = .ok (.goto (-86), 3) := by decide +kernel
theorem d_X6_agentsFit_91 : decode prog_8_method_21_code 91 = .ok (.iconst 1, 1) := by decide +kernel
theorem d_X6_agentsFit_92 : decode prog_8_method_21_code 92 = .ok (.ireturn, 1) := by decide +kernel
theorem d_X1_countRings_0 : decode prog_3_method_14_code 0 = .ok (.iconst 0, 1) := by decide +kernel
theorem d_X1_countRings_1 : decode prog_3_method_14_code 1 = .ok (.istore_n 1, 1) := by decide +kernel
theorem d_X1_countRings_2 : decode prog_3_method_14_code 2 = .ok (.iconst 0, 1) := by decide +kernel
theorem d_X1_countRings_3 : decode prog_3_method_14_code 3 = .ok (.istore_n 2, 1) := by decide +kernel
theorem d_X1_countRings_4 : decode prog_3_method_14_code 4 = .ok (.iload_n 2, 1) := by decide +kernel
theorem d_X1_countRings_5 : decode prog_3_method_14_code 5 = .ok (.aload_n 0, 1) := by decide +kernel
theorem d_X1_countRings_6 : decode prog_3_method_14_code 6 = .ok (.getfield 39, 3) := by decide +kernel
theorem d_X1_countRings_9 : decode prog_3_method_14_code 9 = .ok (.if_icmp .ge 39, 3) := by decide +kernel
theorem d_X1_countRings_12 : decode prog_3_method_14_code 12 = .ok (.iload_n 2, 1) := by decide +kernel
theorem d_X1_countRings_13 : decode prog_3_method_14_code 13 = .ok (.bipush 60, 2) := by decide +kernel
theorem d_X1_countRings_15 : decode prog_3_method_14_code 15 = .ok (.if_icmp .ge 33, 3) := by decide +kernel
theorem d_X1_countRings_18 : decode prog_3_method_14_code 18 = .ok (.aload_n 0, 1) := by decide +kernel
theorem d_X1_countRings_19 : decode prog_3_method_14_code 19 = .ok (.getfield 25, 3) := by decide +kernel
theorem d_X1_countRings_22 : decode prog_3_method_14_code 22 = .ok (.iload_n 2, 1) := by decide +kernel
theorem d_X1_countRings_23 : decode prog_3_method_14_code 23 = .ok (.baload, 1) := by decide +kernel
theorem d_X1_countRings_24 : decode prog_3_method_14_code 24 = .ok (.ifCond .ne 18, 3) := by decide +kernel
theorem d_X1_countRings_27 : decode prog_3_method_14_code 27 = .ok (.iinc 1 1, 3) := by decide +kernel
theorem d_X1_countRings_30 : decode prog_3_method_14_code 30 = .ok (.aload_n 0, 1) := by decide +kernel
theorem d_X1_countRings_31 : decode prog_3_method_14_code 31 = .ok (.sipush 1600, 3) := by decide +kernel
theorem d_X1_countRings_34 : decode prog_3_method_14_code 34 = .ok (.iconst 2, 1) := by decide +kernel
theorem d_X1_countRings_35 : decode prog_3_method_14_code 35 = .ok (.iload_n 2, 1) := by decide +kernel
theorem d_X1_countRings_36 : decode prog_3_method_14_code 36 = .ok (.imul, 1) := by decide +kernel
theorem d_X1_countRings_37 : decode prog_3_method_14_code 37 = .ok (.iadd, 1) := by decide +kernel
theorem d_X1_countRings_38 : decode prog_3_method_14_code 38 = .ok (.invokevirtual 67, 3) := by decide +kernel
theorem d_X1_countRings_41 : decode prog_3_method_14_code 41 = .ok (.pop, 1) := by decide +kernel
theorem d_X1_countRings_42 : decode prog_3_method_14_code 42 = .ok (.iinc 2 1, 3) := by decide +kernel
theorem d_X1_countRings_45 : decode prog_3_method_14_code 45 = .ok (.goto (-41), 3) := by decide +kernel
theorem d_X1_countRings_48 : decode prog_3_method_14_code 48 = .ok (.iload_n 1, 1) := by decide +kernel
theorem d_X1_countRings_49 : decode prog_3_method_14_code 49 = .ok (.ireturn, 1) := by decide +kernel
theorem d_X1_outerPoint_0 : decode prog_3_method_10_code 0 = .ok (.iload_n 0, 1) := by decide +kernel
theorem d_X1_outerPoint_1 : decode prog_3_method_10_code 1 = .ok (.bipush 8, 2) := by decide +kernel
theorem d_X1_outerPoint_3 : decode prog_3_method_10_code 3 = .ok (.invokestatic 45, 3) := by decide +kernel
theorem d_X1_outerPoint_6 : decode prog_3_method_10_code 6 = .ok (.ifCond .eq 11, 3) := by decide +kernel
theorem d_X1_outerPoint_9 : decode prog_3_method_10_code 9 = .ok (.sipush 1720, 3) := by decide +kernel
theorem d_X1_outerPoint_12 : decode prog_3_method_10_code 12 = .ok (.iload_n 0, 1) := by decide +kernel
theorem d_X1_outerPoint_13 : decode prog_3_method_10_code 13 = .ok (.iadd, 1) := by decide +kernel
theorem d_X1_outerPoint_14 : decode prog_3_method_10_code 14 = .ok (.goto 4, 3) := by decide +kernel
theorem d_X1_outerPoint_17 : decode prog_3_method_10_code 17 = .ok (.iconst (-1), 1) := by decide +kernel
theorem d_X1_outerPoint_18 : decode prog_3_method_10_code 18 = .ok (.ireturn, 1) := by decide +kernel
theorem d_X4_add_0 : decode prog_6_method_8_code 0 = .ok (.iload_n 2, 1) := by decide +kernel
theorem d_X4_add_1 : decode prog_6_method_8_code 1 = .ok (.iconst 0, 1) := by decide +kernel
theorem d_X4_add_2 : decode prog_6_method_8_code 2 = .ok (.invokestatic 50, 3) := by decide +kernel
theorem d_X4_add_5 : decode prog_6_method_8_code 5 = .ok (.istore_n 3, 1) := by decide +kernel
theorem d_X4_add_6 : decode prog_6_method_8_code 6 = .ok (.iload_n 3, 1) := by decide +kernel
theorem d_X4_add_7 : decode prog_6_method_8_code 7 = .ok (.sipush 400, 3) := by decide +kernel
theorem d_X4_add_10 : decode prog_6_method_8_code 10 = .ok (.if_icmp .ge 52, 3) := by decide +kernel
theorem d_X4_add_13 : decode prog_6_method_8_code 13 = .ok (.aload_n 0, 1) := by decide +kernel
theorem d_X4_add_14 : decode prog_6_method_8_code 14 = .ok (.getfield 9, 3) := by decide +kernel
theorem d_X4_add_17 : decode prog_6_method_8_code 17 = .ok (.iload_n 3, 1) := by decide +kernel
theorem d_X4_add_18 : decode prog_6_method_8_code 18 = .ok (.iaload, 1) := by decide +kernel
theorem d_X4_add_19 : decode prog_6_method_8_code 19 = .ok (.iconst (-1), 1) := by decide +kernel
theorem d_X4_add_20 : decode prog_6_method_8_code 20 = .ok (.if_icmp .ne 36, 3) := by decide +kernel
theorem d_X4_add_23 : decode prog_6_method_8_code 23 = .ok (.aload_n 0, 1) := by decide +kernel
theorem d_X4_add_24 : decode prog_6_method_8_code 24 = .ok (.getfield 9, 3) := by decide +kernel
theorem d_X4_add_27 : decode prog_6_method_8_code 27 = .ok (.iload_n 3, 1) := by decide +kernel
theorem d_X4_add_28 : decode prog_6_method_8_code 28 = .ok (.iload_n 1, 1) := by decide +kernel
theorem d_X4_add_29 : decode prog_6_method_8_code 29 = .ok (.iastore, 1) := by decide +kernel
theorem d_X4_add_30 : decode prog_6_method_8_code 30 = .ok (.aload_n 0, 1) := by decide +kernel
theorem d_X4_add_31 : decode prog_6_method_8_code 31 = .ok (.dup, 1) := by decide +kernel
theorem d_X4_add_32 : decode prog_6_method_8_code 32 = .ok (.getfield 27, 3) := by decide +kernel
theorem d_X4_add_35 : decode prog_6_method_8_code 35 = .ok (.iconst 1, 1) := by decide +kernel
theorem d_X4_add_36 : decode prog_6_method_8_code 36 = .ok (.iadd, 1) := by decide +kernel
theorem d_X4_add_37 : decode prog_6_method_8_code 37 = .ok (.putfield 27, 3) := by decide +kernel
theorem d_X4_add_40 : decode prog_6_method_8_code 40 = .ok (.aload_n 0, 1) := by decide +kernel
theorem d_X4_add_41 : decode prog_6_method_8_code 41 = .ok (.aload_n 0, 1) := by decide +kernel
theorem d_X4_add_42 : decode prog_6_method_8_code 42 = .ok (.getfield 37, 3) := by decide +kernel
theorem d_X4_add_45 : decode prog_6_method_8_code 45 = .ok (.iload_n 3, 1) := by decide +kernel
theorem d_X4_add_46 : decode prog_6_method_8_code 46 = .ok (.iconst 1, 1) := by decide +kernel
theorem d_X4_add_47 : decode prog_6_method_8_code 47 = .ok (.iadd, 1) := by decide +kernel
theorem d_X4_add_48 : decode prog_6_method_8_code 48 = .ok (.invokestatic 50, 3) := by decide +kernel
theorem d_X4_add_51 : decode prog_6_method_8_code 51 = .ok (.putfield 37, 3) := by decide +kernel
theorem d_X4_add_54 : decode prog_6_method_8_code 54 = .ok (.iload_n 3, 1) := by decide +kernel
theorem d_X4_add_55 : decode prog_6_method_8_code 55 = .ok (.ireturn, 1) := by decide +kernel
theorem d_X4_add_56 : decode prog_6_method_8_code 56 = .ok (.iinc 3 1, 3) := by decide +kernel
theorem d_X4_add_59 : decode prog_6_method_8_code 59 = .ok (.goto (-53), 3) := by decide +kernel
theorem d_X4_add_62 : decode prog_6_method_8_code 62 = .ok (.iconst (-1), 1) := by decide +kernel
theorem d_X4_add_63 : decode prog_6_method_8_code 63 = .ok (.ireturn, 1) := by decide +kernel
theorem d_X4_setWire_0 : decode prog_6_method_11_code 0 = .ok (.iload_n 1, 1) := by decide +kernel
theorem d_X4_setWire_1 : decode prog_6_method_11_code 1 = .ok (.aload_n 0, 1) := by decide +kernel
theorem d_X4_setWire_2 : decode prog_6_method_11_code 2 = .ok (.getfield 15, 3) := by decide +kernel
theorem d_X4_setWire_5 : decode prog_6_method_11_code 5 = .ok (.arraylength, 1) := by decide +kernel
theorem d_X4_setWire_6 : decode prog_6_method_11_code 6 = .ok (.invokestatic 46, 3) := by decide +kernel
theorem d_X4_setWire_9 : decode prog_6_method_11_code 9 = .ok (.ifCond .eq 13, 3) := by decide +kernel
theorem d_X4_setWire_12 : decode prog_6_method_11_code 12 = .ok (.aload_n 0, 1) := by decide +kernel
theorem d_X4_setWire_13 : decode prog_6_method_11_code 13 = .ok (.getfield 15, 3) := by decide +kernel
theorem d_X4_setWire_16 : decode prog_6_method_11_code 16 = .ok (.iload_n 1, 1) := by decide +kernel
theorem d_X4_setWire_17 : decode prog_6_method_11_code 17 = .ok (.iload_n 2, 1) := by decide +kernel
theorem d_X4_setWire_18 : decode prog_6_method_11_code 18 = .ok (.iastore, 1) := by decide +kernel
theorem d_X4_setWire_19 : decode prog_6_method_11_code 19 = .ok (.goto 28, 3) := by decide +kernel
theorem d_X4_setWire_22 : decode prog_6_method_11_code 22 = .ok (.iload_n 1, 1) := by decide +kernel
theorem d_X4_setWire_23 : decode prog_6_method_11_code 23 = .ok (.invokestatic 63, 3) := by decide +kernel
theorem d_X4_setWire_26 : decode prog_6_method_11_code 26 = .ok (.aload_n 0, 1) := by decide +kernel
theorem d_X4_setWire_27 : decode prog_6_method_11_code 27 = .ok (.getfield 18, 3) := by decide +kernel
theorem d_X4_setWire_30 : decode prog_6_method_11_code 30 = .ok (.arraylength, 1) := by decide +kernel
theorem d_X4_setWire_31 : decode prog_6_method_11_code 31 = .ok (.invokestatic 46, 3) := by decide +kernel
theorem d_X4_setWire_34 : decode prog_6_method_11_code 34 = .ok (.ifCond .eq 13, 3) := by decide +kernel
theorem d_X4_setWire_37 : decode prog_6_method_11_code 37 = .ok (.aload_n 0, 1) := by decide +kernel
theorem d_X4_setWire_38 : decode prog_6_method_11_code 38 = .ok (.getfield 18, 3) := by decide +kernel
theorem d_X4_setWire_41 : decode prog_6_method_11_code 41 = .ok (.iload_n 1, 1) := by decide +kernel
theorem d_X4_setWire_42 : decode prog_6_method_11_code 42 = .ok (.invokestatic 63, 3) := by decide +kernel
theorem d_X4_setWire_45 : decode prog_6_method_11_code 45 = .ok (.iload_n 2, 1) := by decide +kernel
theorem d_X4_setWire_46 : decode prog_6_method_11_code 46 = .ok (.iastore, 1) := by decide +kernel
theorem d_X4_setWire_47 : decode prog_6_method_11_code 47 = .ok (.return_, 1) := by decide +kernel
theorem d_X6_storeNet_0 : decode prog_8_method_29_code 0 = .ok (.aload_n 0, 1) := by decide +kernel
theorem d_X6_storeNet_1 : decode prog_8_method_29_code 1 = .ok (.getfield 32, 3) := by decide +kernel
theorem d_X6_storeNet_4 : decode prog_8_method_29_code 4 = .ok (.getfield 274, 3) := by decide +kernel
theorem d_X6_storeNet_7 : decode prog_8_method_29_code 7 = .ok (.astore_n 1, 1) := by decide +kernel
theorem d_X6_storeNet_8 : decode prog_8_method_29_code 8 = .ok (.iconst 0, 1) := by decide +kernel
theorem d_X6_storeNet_9 : decode prog_8_method_29_code 9 = .ok (.istore_n 2, 1) := by decide +kernel
theorem d_X6_storeNet_10 : decode prog_8_method_29_code 10 = .ok (.iload_n 2, 1) := by decide +kernel
theorem d_X6_storeNet_11 : decode prog_8_method_29_code 11 = .ok (.aload_n 0, 1) := by decide +kernel
theorem d_X6_storeNet_12 : decode prog_8_method_29_code 12 = .ok (.getfield 12, 3) := by decide +kernel
theorem d_X6_storeNet_15 : decode prog_8_method_29_code 15 = .ok (.getfield 176, 3) := by decide +kernel
theorem d_X6_storeNet_18 : decode prog_8_method_29_code 18 = .ok (.if_icmp .ge 80, 3) := by decide +kernel
theorem d_X6_storeNet_21 : decode prog_8_method_29_code 21 = .ok (.aload_n 1, 1) := by decide +kernel
theorem d_X6_storeNet_22 : decode prog_8_method_29_code 22 = .ok (.aload_n 0, 1) := by decide +kernel
theorem d_X6_storeNet_23 : decode prog_8_method_29_code 23 = .ok (.getfield 12, 3) := by decide +kernel
theorem d_X6_storeNet_26 : decode prog_8_method_29_code 26 = .ok (.iload_n 2, 1) := by decide +kernel
theorem d_X6_storeNet_27 : decode prog_8_method_29_code 27 = .ok (.invokevirtual 222, 3) := by decide +kernel
theorem d_X6_storeNet_30 : decode prog_8_method_29_code 30 = .ok (.iload_n 2, 1) := by decide +kernel
theorem d_X6_storeNet_31 : decode prog_8_method_29_code 31 = .ok (.invokevirtual 278, 3) := by decide +kernel
theorem d_X6_storeNet_34 : decode prog_8_method_29_code 34 = .ok (.pop, 1) := by decide +kernel
theorem d_X6_storeNet_35 : decode prog_8_method_29_code 35 = .ok (.aload_n 0, 1) := by decide +kernel
theorem d_X6_storeNet_36 : decode prog_8_method_29_code 36 = .ok (.getfield 32, 3) := by decide +kernel
theorem d_X6_storeNet_39 : decode prog_8_method_29_code 39 = .ok (.getfield 91, 3) := by decide +kernel
theorem d_X6_storeNet_42 : decode prog_8_method_29_code 42 = .ok (.aload_n 0, 1) := by decide +kernel
theorem d_X6_storeNet_43 : decode prog_8_method_29_code 43 = .ok (.getfield 12, 3) := by decide +kernel
theorem d_X6_storeNet_46 : decode prog_8_method_29_code 46 = .ok (.iload_n 2, 1) := by decide +kernel
theorem d_X6_storeNet_47 : decode prog_8_method_29_code 47 = .ok (.invokevirtual 222, 3) := by decide +kernel
theorem d_X6_storeNet_50 : decode prog_8_method_29_code 50 = .ok (.invokevirtual 167, 3) := by decide +kernel
theorem d_X6_storeNet_53 : decode prog_8_method_29_code 53 = .ok (.istore_n 3, 1) := by decide +kernel
theorem d_X6_storeNet_54 : decode prog_8_method_29_code 54 = .ok (.iconst 0, 1) := by decide +kernel
theorem d_X6_storeNet_55 : decode prog_8_method_29_code 55 = .ok (.istore 4, 2) := by decide +kernel
theorem d_X6_storeNet_57 : decode prog_8_method_29_code 57 = .ok (.iload 4, 2) := by decide +kernel
theorem d_X6_storeNet_59 : decode prog_8_method_29_code 59 = .ok (.iload_n 3, 1) := by decide +kernel
theorem d_X6_storeNet_60 : decode prog_8_method_29_code 60 = .ok (.if_icmp .ge 32, 3) := by decide +kernel
theorem d_X6_storeNet_63 : decode prog_8_method_29_code 63 = .ok (.aload_n 1, 1) := by decide +kernel
theorem d_X6_storeNet_64 : decode prog_8_method_29_code 64 = .ok (.iload_n 2, 1) := by decide +kernel
theorem d_X6_storeNet_65 : decode prog_8_method_29_code 65 = .ok (.iload 4, 2) := by decide +kernel
theorem d_X6_storeNet_67 : decode prog_8_method_29_code 67 = .ok (.invokestatic 186, 3) := by decide +kernel
theorem d_X6_storeNet_70 : decode prog_8_method_29_code 70 = .ok (.aload_n 0, 1) := by decide +kernel
theorem d_X6_storeNet_71 : decode prog_8_method_29_code 71 = .ok (.getfield 12, 3) := by decide +kernel
theorem d_X6_storeNet_74 : decode prog_8_method_29_code 74 = .ok (.iload_n 2, 1) := by decide +kernel
theorem d_X6_storeNet_75 : decode prog_8_method_29_code 75 = .ok (.iload 4, 2) := by decide +kernel
theorem d_X6_storeNet_77 : decode prog_8_method_29_code 77 = .ok (.invokestatic 186, 3) := by decide +kernel
theorem d_X6_storeNet_80 : decode prog_8_method_29_code 80 = .ok (.invokevirtual 228, 3) := by decide +kernel
theorem d_X6_storeNet_83 : decode prog_8_method_29_code 83 = .ok (.invokevirtual 281, 3) := by decide +kernel
theorem d_X6_storeNet_86 : decode prog_8_method_29_code 86 = .ok (.iinc 4 1, 3) := by decide +kernel
theorem d_X6_storeNet_89 : decode prog_8_method_29_code 89 = .ok (.goto (-32), 3) := by decide +kernel
theorem d_X6_storeNet_92 : decode prog_8_method_29_code 92 = .ok (.iinc 2 1, 3) := by decide +kernel
theorem d_X6_storeNet_95 : decode prog_8_method_29_code 95 = .ok (.goto (-85), 3) := by decide +kernel
theorem d_X6_storeNet_98 : decode prog_8_method_29_code 98 = .ok (.aload_n 1, 1) := by decide +kernel
theorem d_X6_storeNet_99 : decode prog_8_method_29_code 99 = .ok (.aload_n 0, 1) := by decide +kernel
theorem d_X6_storeNet_100 : decode prog_8_method_29_code 100 = .ok (.getfield 12, 3) := by decide +kernel
theorem d_X6_storeNet_103 : decode prog_8_method_29_code 103 = .ok (.getfield 216, 3) := by decide +kernel
theorem d_X6_storeNet_106 : decode prog_8_method_29_code 106 = .ok (.putfield 283, 3) := by decide +kernel
theorem d_X6_storeNet_109 : decode prog_8_method_29_code 109 = .ok (.iconst 0, 1) := by decide +kernel
theorem d_X6_storeNet_110 : decode prog_8_method_29_code 110 = .ok (.istore_n 2, 1) := by decide +kernel
theorem d_X6_storeNet_111 : decode prog_8_method_29_code 111 = .ok (.iload_n 2, 1) := by decide +kernel
theorem d_X6_storeNet_112 : decode prog_8_method_29_code 112 = .ok (.aload_n 0, 1) := by decide +kernel
theorem d_X6_storeNet_113 : decode prog_8_method_29_code 113 = .ok (.getfield 12, 3) := by decide +kernel
theorem d_X6_storeNet_116 : decode prog_8_method_29_code 116 = .ok (.getfield 216, 3) := by decide +kernel
theorem d_X6_storeNet_119 : decode prog_8_method_29_code 119 = .ok (.if_icmp .ge 28, 3) := by decide +kernel
theorem d_X6_storeNet_122 : decode prog_8_method_29_code 122 = .ok (.aload_n 1, 1) := by decide +kernel
theorem d_X6_storeNet_123 : decode prog_8_method_29_code 123 = .ok (.iload_n 2, 1) := by decide +kernel
theorem d_X6_storeNet_124 : decode prog_8_method_29_code 124 = .ok (.invokestatic 264, 3) := by decide +kernel
theorem d_X6_storeNet_127 : decode prog_8_method_29_code 127 = .ok (.aload_n 0, 1) := by decide +kernel
theorem d_X6_storeNet_128 : decode prog_8_method_29_code 128 = .ok (.getfield 12, 3) := by decide +kernel
theorem d_X6_storeNet_131 : decode prog_8_method_29_code 131 = .ok (.iload_n 2, 1) := by decide +kernel
theorem d_X6_storeNet_132 : decode prog_8_method_29_code 132 = .ok (.invokestatic 160, 3) := by decide +kernel
theorem d_X6_storeNet_135 : decode prog_8_method_29_code 135 = .ok (.invokevirtual 228, 3) := by decide +kernel
theorem d_X6_storeNet_138 : decode prog_8_method_29_code 138 = .ok (.invokevirtual 281, 3) := by decide +kernel
theorem d_X6_storeNet_141 : decode prog_8_method_29_code 141 = .ok (.iinc 2 1, 3) := by decide +kernel
theorem d_X6_storeNet_144 : decode prog_8_method_29_code 144 = .ok (.goto (-33), 3) := by decide +kernel
theorem d_X6_storeNet_147 : decode prog_8_method_29_code 147 = .ok (.aload_n 1, 1) := by decide +kernel
theorem d_X6_storeNet_148 : decode prog_8_method_29_code 148 = .ok (.aload_n 0, 1) := by decide +kernel
theorem d_X6_storeNet_149 : decode prog_8_method_29_code 149 = .ok (.getfield 12, 3) := by decide +kernel
theorem d_X6_storeNet_152 : decode prog_8_method_29_code 152 = .ok (.invokevirtual 267, 3) := by decide +kernel
theorem d_X6_storeNet_155 : decode prog_8_method_29_code 155 = .ok (.putfield 284, 3) := by decide +kernel
theorem d_X6_storeNet_158 : decode prog_8_method_29_code 158 = .ok (.return_, 1) := by decide +kernel
theorem d_X6_endNet_0 : decode prog_8_method_20_code 0 = .ok (.aload_n 0, 1) := by decide +kernel
theorem d_X6_endNet_1 : decode prog_8_method_20_code 1 = .ok (.getfield 12, 3) := by decide +kernel
theorem d_X6_endNet_4 : decode prog_8_method_20_code 4 = .ok (.invokevirtual 213, 3) := by decide +kernel
theorem d_X6_endNet_7 : decode prog_8_method_20_code 7 = .ok (.aload_n 0, 1) := by decide +kernel
theorem d_X6_endNet_8 : decode prog_8_method_20_code 8 = .ok (.getfield 25, 3) := by decide +kernel
theorem d_X6_endNet_11 : decode prog_8_method_20_code 11 = .ok (.getfield 53, 3) := by decide +kernel
theorem d_X6_endNet_14 : decode prog_8_method_20_code 14 = .ok (.bipush 59, 2) := by decide +kernel
theorem d_X6_endNet_16 : decode prog_8_method_20_code 16 = .ok (.if_icmp .eq 10, 3) := by decide +kernel
theorem d_X6_endNet_19 : decode prog_8_method_20_code 19 = .ok (.aload_n 0, 1) := by decide +kernel
theorem d_X6_endNet_20 : decode prog_8_method_20_code 20 = .ok (.invokevirtual 75, 3) := by decide +kernel
theorem d_X6_endNet_23 : decode prog_8_method_20_code 23 = .ok (.goto 56, 3) := by decide +kernel
theorem d_X6_endNet_26 : decode prog_8_method_20_code 26 = .ok (.aload_n 0, 1) := by decide +kernel
theorem d_X6_endNet_27 : decode prog_8_method_20_code 27 = .ok (.getfield 12, 3) := by decide +kernel
theorem d_X6_endNet_30 : decode prog_8_method_20_code 30 = .ok (.iconst 3, 1) := by decide +kernel
theorem d_X6_endNet_31 : decode prog_8_method_20_code 31 = .ok (.sipush 4000, 3) := by decide +kernel
theorem d_X6_endNet_34 : decode prog_8_method_20_code 34 = .ok (.invokevirtual 198, 3) := by decide +kernel
theorem d_X6_endNet_37 : decode prog_8_method_20_code 37 = .ok (.ifCond .ne 22, 3) := by decide +kernel
theorem d_X6_endNet_40 : decode prog_8_method_20_code 40 = .ok (.aload_n 0, 1) := by decide +kernel
theorem d_X6_endNet_41 : decode prog_8_method_20_code 41 = .ok (.getfield 12, 3) := by decide +kernel
theorem d_X6_endNet_44 : decode prog_8_method_20_code 44 = .ok (.getfield 216, 3) := by decide +kernel
theorem d_X6_endNet_47 : decode prog_8_method_20_code 47 = .ok (.bipush 8, 2) := by decide +kernel
theorem d_X6_endNet_49 : decode prog_8_method_20_code 49 = .ok (.if_icmp .gt 10, 3) := by decide +kernel
theorem d_X6_endNet_52 : decode prog_8_method_20_code 52 = .ok (.aload_n 0, 1) := by decide +kernel
theorem d_X6_endNet_53 : decode prog_8_method_20_code 53 = .ok (.invokevirtual 202, 3) := by decide +kernel
theorem d_X6_endNet_56 : decode prog_8_method_20_code 56 = .ok (.ifCond .ne 12, 3) := by decide +kernel
theorem d_X6_endNet_59 : decode prog_8_method_20_code 59 = .ok (.aload_n 0, 1) := by decide +kernel
theorem d_X6_endNet_60 : decode prog_8_method_20_code 60 = .ok (.bipush 7, 2) := by decide +kernel
theorem d_X6_endNet_62 : decode prog_8_method_20_code 62 = .ok (.invokevirtual 101, 3) := by decide +kernel
theorem d_X6_endNet_65 : decode prog_8_method_20_code 65 = .ok (.goto 14, 3) := by decide +kernel
theorem d_X6_endNet_68 : decode prog_8_method_20_code 68 = .ok (.aload_n 0, 1) := by decide +kernel
theorem d_X6_endNet_69 : decode prog_8_method_20_code 69 = .ok (.invokevirtual 219, 3) := by decide +kernel
theorem d_X6_endNet_72 : decode prog_8_method_20_code 72 = .ok (.aload_n 0, 1) := by decide +kernel
theorem d_X6_endNet_73 : decode prog_8_method_20_code 73 = .ok (.getfield 25, 3) := by decide +kernel
theorem d_X6_endNet_76 : decode prog_8_method_20_code 76 = .ok (.invokevirtual 88, 3) := by decide +kernel
theorem d_X6_endNet_79 : decode prog_8_method_20_code 79 = .ok (.return_, 1) := by decide +kernel
theorem d_X1_addAgent_0 : decode prog_3_method_3_code 0 = .ok (.aload_n 0, 1) := by decide +kernel
theorem d_X1_addAgent_1 : decode prog_3_method_3_code 1 = .ok (.getfield 35, 3) := by decide +kernel
theorem d_X1_addAgent_4 : decode prog_3_method_3_code 4 = .ok (.sipush 200, 3) := by decide +kernel
theorem d_X1_addAgent_7 : decode prog_3_method_3_code 7 = .ok (.if_icmp .ge 23, 3) := by decide +kernel
theorem d_X1_addAgent_10 : decode prog_3_method_3_code 10 = .ok (.aload_n 0, 1) := by decide +kernel
theorem d_X1_addAgent_11 : decode prog_3_method_3_code 11 = .ok (.getfield 15, 3) := by decide +kernel
theorem d_X1_addAgent_14 : decode prog_3_method_3_code 14 = .ok (.aload_n 0, 1) := by decide +kernel
theorem d_X1_addAgent_15 : decode prog_3_method_3_code 15 = .ok (.getfield 35, 3) := by decide +kernel
theorem d_X1_addAgent_18 : decode prog_3_method_3_code 18 = .ok (.iload_n 1, 1) := by decide +kernel
theorem d_X1_addAgent_19 : decode prog_3_method_3_code 19 = .ok (.iastore, 1) := by decide +kernel
theorem d_X1_addAgent_20 : decode prog_3_method_3_code 20 = .ok (.aload_n 0, 1) := by decide +kernel
theorem d_X1_addAgent_21 : decode prog_3_method_3_code 21 = .ok (.dup, 1) := by decide +kernel
theorem d_X1_addAgent_22 : decode prog_3_method_3_code 22 = .ok (.getfield 35, 3) := by decide +kernel
theorem d_X1_addAgent_25 : decode prog_3_method_3_code 25 = .ok (.iconst 1, 1) := by decide +kernel
theorem d_X1_addAgent_26 : decode prog_3_method_3_code 26 = .ok (.iadd, 1) := by decide +kernel
theorem d_X1_addAgent_27 : decode prog_3_method_3_code 27 = .ok (.putfield 35, 3) := by decide +kernel
theorem d_X1_addAgent_30 : decode prog_3_method_3_code 30 = .ok (.aload_n 0, 1) := by decide +kernel
theorem d_X1_addAgent_31 : decode prog_3_method_3_code 31 = .ok (.getfield 35, 3) := by decide +kernel
theorem d_X1_addAgent_34 : decode prog_3_method_3_code 34 = .ok (.iconst 1, 1) := by decide +kernel
theorem d_X1_addAgent_35 : decode prog_3_method_3_code 35 = .ok (.isub, 1) := by decide +kernel
theorem d_X1_addAgent_36 : decode prog_3_method_3_code 36 = .ok (.ireturn, 1) := by decide +kernel
theorem d_X6_askBracket_0 : decode prog_8_method_13_code 0 = .ok (.aload_n 0, 1) := by decide +kernel
theorem d_X6_askBracket_1 : decode prog_8_method_13_code 1 = .ok (.getfield 47, 3) := by decide +kernel
theorem d_X6_askBracket_4 : decode prog_8_method_13_code 4 = .ok (.ifCond .ne 30, 3) := by decide +kernel
theorem d_X6_askBracket_7 : decode prog_8_method_13_code 7 = .ok (.iload_n 2, 1) := by decide +kernel
theorem d_X6_askBracket_8 : decode prog_8_method_13_code 8 = .ok (.aload_n 0, 1) := by decide +kernel
theorem d_X6_askBracket_9 : decode prog_8_method_13_code 9 = .ok (.getfield 32, 3) := by decide +kernel
theorem d_X6_askBracket_12 : decode prog_8_method_13_code 12 = .ok (.getfield 91, 3) := by decide +kernel
theorem d_X6_askBracket_15 : decode prog_8_method_13_code 15 = .ok (.iload_n 1, 1) := by decide +kernel
theorem d_X6_askBracket_16 : decode prog_8_method_13_code 16 = .ok (.invokevirtual 167, 3) := by decide +kernel
theorem d_X6_askBracket_19 : decode prog_8_method_13_code 19 = .ok (.iconst 1, 1) := by decide +kernel
theorem d_X6_askBracket_20 : decode prog_8_method_13_code 20 = .ok (.isub, 1) := by decide +kernel
theorem d_X6_askBracket_21 : decode prog_8_method_13_code 21 = .ok (.if_icmp .eq 13, 3) := by decide +kernel
theorem d_X6_askBracket_24 : decode prog_8_method_13_code 24 = .ok (.aload_n 0, 1) := by decide +kernel
theorem d_X6_askBracket_25 : decode prog_8_method_13_code 25 = .ok (.iconst 5, 1) := by decide +kernel
theorem d_X6_askBracket_26 : decode prog_8_method_13_code 26 = .ok (.putfield 47, 3) := by decide +kernel
theorem d_X6_askBracket_29 : decode prog_8_method_13_code 29 = .ok (.aload_n 0, 1) := by decide +kernel
theorem d_X6_askBracket_30 : decode prog_8_method_13_code 30 = .ok (.iload_n 3, 1) := by decide +kernel
theorem d_X6_askBracket_31 : decode prog_8_method_13_code 31 = .ok (.putfield 36, 3) := by decide +kernel
theorem d_X6_askBracket_34 : decode prog_8_method_13_code 34 = .ok (.return_, 1) := by decide +kernel
theorem d_X1_nameNumber_0 : decode prog_3_method_5_code 0 = .ok (.iconst 0, 1) := by decide +kernel
theorem d_X1_nameNumber_1 : decode prog_3_method_5_code 1 = .ok (.istore_n 3, 1) := by decide +kernel
theorem d_X1_nameNumber_2 : decode prog_3_method_5_code 2 = .ok (.iload_n 3, 1) := by decide +kernel
theorem d_X1_nameNumber_3 : decode prog_3_method_5_code 3 = .ok (.aload_n 0, 1) := by decide +kernel
theorem d_X1_nameNumber_4 : decode prog_3_method_5_code 4 = .ok (.getfield 39, 3) := by decide +kernel
theorem d_X1_nameNumber_7 : decode prog_3_method_5_code 7 = .ok (.if_icmp .ge 28, 3) := by decide +kernel
theorem d_X1_nameNumber_10 : decode prog_3_method_5_code 10 = .ok (.iload_n 3, 1) := by decide +kernel
theorem d_X1_nameNumber_11 : decode prog_3_method_5_code 11 = .ok (.bipush 60, 2) := by decide +kernel
theorem d_X1_nameNumber_13 : decode prog_3_method_5_code 13 = .ok (.if_icmp .ge 22, 3) := by decide +kernel
theorem d_X1_nameNumber_16 : decode prog_3_method_5_code 16 = .ok (.aload_n 0, 1) := by decide +kernel
theorem d_X1_nameNumber_17 : decode prog_3_method_5_code 17 = .ok (.getfield 18, 3) := by decide +kernel
theorem d_X1_nameNumber_20 : decode prog_3_method_5_code 20 = .ok (.iload_n 3, 1) := by decide +kernel
theorem d_X1_nameNumber_21 : decode prog_3_method_5_code 21 = .ok (.laload, 1) := by decide +kernel
theorem d_X1_nameNumber_22 : decode prog_3_method_5_code 22 = .ok (.lload_n 1, 1) := by decide +kernel
theorem d_X1_nameNumber_23 : decode prog_3_method_5_code 23 = .ok (.lcmp, 1) := by decide +kernel
theorem d_X1_nameNumber_24 : decode prog_3_method_5_code 24 = .ok (.ifCond .ne 5, 3) := by decide +kernel
theorem d_X1_nameNumber_27 : decode prog_3_method_5_code 27 = .ok (.iload_n 3, 1) := by decide +kernel
theorem d_X1_nameNumber_28 : decode prog_3_method_5_code 28 = .ok (.ireturn, 1) := by decide +kernel
theorem d_X1_nameNumber_29 : decode prog_3_method_5_code 29 = .ok (.iinc 3 1, 3) := by decide +kernel
theorem d_X1_nameNumber_32 : decode prog_3_method_5_code 32 = .ok (.goto (-30), 3) := by decide +kernel
theorem d_X1_nameNumber_35 : decode prog_3_method_5_code 35 = .ok (.aload_n 0, 1) := by decide +kernel
theorem d_X1_nameNumber_36 : decode prog_3_method_5_code 36 = .ok (.getfield 39, 3) := by decide +kernel
theorem d_X1_nameNumber_39 : decode prog_3_method_5_code 39 = .ok (.bipush 60, 2) := by decide +kernel
theorem d_X1_nameNumber_41 : decode prog_3_method_5_code 41 = .ok (.if_icmp .lt 5, 3) := by decide +kernel
theorem d_X1_nameNumber_44 : decode prog_3_method_5_code 44 = .ok (.iconst (-1), 1) := by decide +kernel
theorem d_X1_nameNumber_45 : decode prog_3_method_5_code 45 = .ok (.ireturn, 1) := by decide +kernel
theorem d_X1_nameNumber_46 : decode prog_3_method_5_code 46 = .ok (.aload_n 0, 1) := by decide +kernel
theorem d_X1_nameNumber_47 : decode prog_3_method_5_code 47 = .ok (.getfield 18, 3) := by decide +kernel
theorem d_X1_nameNumber_50 : decode prog_3_method_5_code 50 = .ok (.aload_n 0, 1) := by decide +kernel
theorem d_X1_nameNumber_51 : decode prog_3_method_5_code 51 = .ok (.getfield 39, 3) := by decide +kernel
theorem d_X1_nameNumber_54 : decode prog_3_method_5_code 54 = .ok (.lload_n 1, 1) := by decide +kernel
theorem d_X1_nameNumber_55 : decode prog_3_method_5_code 55 = .ok (.lastore, 1) := by decide +kernel
theorem d_X1_nameNumber_56 : decode prog_3_method_5_code 56 = .ok (.aload_n 0, 1) := by decide +kernel
theorem d_X1_nameNumber_57 : decode prog_3_method_5_code 57 = .ok (.getfield 22, 3) := by decide +kernel
theorem d_X1_nameNumber_60 : decode prog_3_method_5_code 60 = .ok (.aload_n 0, 1) := by decide +kernel
theorem d_X1_nameNumber_61 : decode prog_3_method_5_code 61 = .ok (.getfield 39, 3) := by decide +kernel
theorem d_X1_nameNumber_64 : decode prog_3_method_5_code 64 = .ok (.iconst 0, 1) := by decide +kernel
theorem d_X1_nameNumber_65 : decode prog_3_method_5_code 65 = .ok (.iastore, 1) := by decide +kernel
theorem d_X1_nameNumber_66 : decode prog_3_method_5_code 66 = .ok (.aload_n 0, 1) := by decide +kernel
theorem d_X1_nameNumber_67 : decode prog_3_method_5_code 67 = .ok (.getfield 25, 3) := by decide +kernel
theorem d_X1_nameNumber_70 : decode prog_3_method_5_code 70 = .ok (.aload_n 0, 1) := by decide +kernel
theorem d_X1_nameNumber_71 : decode prog_3_method_5_code 71 = .ok (.getfield 39, 3) := by decide +kernel
theorem d_X1_nameNumber_74 : decode prog_3_method_5_code 74 = .ok (.iconst 0, 1) := by decide +kernel
theorem d_X1_nameNumber_75 : decode prog_3_method_5_code 75 = .ok (.bastore, 1) := by decide +kernel
theorem d_X1_nameNumber_76 : decode prog_3_method_5_code 76 = .ok (.aload_n 0, 1) := by decide +kernel
theorem d_X1_nameNumber_77 : decode prog_3_method_5_code 77 = .ok (.dup, 1) := by decide +kernel
theorem d_X1_nameNumber_78 : decode prog_3_method_5_code 78 = .ok (.getfield 39, 3) := by decide +kernel
theorem d_X1_nameNumber_81 : decode prog_3_method_5_code 81 = .ok (.iconst 1, 1) := by decide +kernel
theorem d_X1_nameNumber_82 : decode prog_3_method_5_code 82 = .ok (.iadd, 1) := by decide +kernel
theorem d_X1_nameNumber_83 : decode prog_3_method_5_code 83 = .ok (.putfield 39, 3) := by decide +kernel
theorem d_X1_nameNumber_86 : decode prog_3_method_5_code 86 = .ok (.aload_n 0, 1) := by decide +kernel
theorem d_X1_nameNumber_87 : decode prog_3_method_5_code 87 = .ok (.getfield 39, 3) := by decide +kernel
theorem d_X1_nameNumber_90 : decode prog_3_method_5_code 90 = .ok (.iconst 1, 1) := by decide +kernel
theorem d_X1_nameNumber_91 : decode prog_3_method_5_code 91 = .ok (.isub, 1) := by decide +kernel
theorem d_X1_nameNumber_92 : decode prog_3_method_5_code 92 = .ok (.ireturn, 1) := by decide +kernel
theorem d_X6_readName_0 : decode prog_8_method_18_code 0 = .ok (.iload_n 1, 1) := by decide +kernel
theorem d_X6_readName_1 : decode prog_8_method_18_code 1 = .ok (.bipush 12, 2) := by decide +kernel
theorem d_X6_readName_3 : decode prog_8_method_18_code 3 = .ok (.if_icmp .lt 7, 3) := by decide +kernel
theorem d_X6_readName_6 : decode prog_8_method_18_code 6 = .ok (.iconst (-1), 1) := by decide +kernel
theorem d_X6_readName_7 : decode prog_8_method_18_code 7 = .ok (.goto 17, 3) := by decide +kernel
theorem d_X6_readName_10 : decode prog_8_method_18_code 10 = .ok (.aload_n 0, 1) := by decide +kernel
theorem d_X6_readName_11 : decode prog_8_method_18_code 11 = .ok (.getfield 12, 3) := by decide +kernel
theorem d_X6_readName_14 : decode prog_8_method_18_code 14 = .ok (.aload_n 0, 1) := by decide +kernel
theorem d_X6_readName_15 : decode prog_8_method_18_code 15 = .ok (.getfield 25, 3) := by decide +kernel
theorem d_X6_readName_18 : decode prog_8_method_18_code 18 = .ok (.getfield 81, 3) := by decide +kernel
theorem d_X6_readName_21 : decode prog_8_method_18_code 21 = .ok (.invokevirtual 189, 3) := by decide +kernel
theorem d_X6_readName_24 : decode prog_8_method_18_code 24 = .ok (.istore_n 2, 1) := by decide +kernel
theorem d_X6_readName_25 : decode prog_8_method_18_code 25 = .ok (.iload_n 2, 1) := by decide +kernel
theorem d_X6_readName_26 : decode prog_8_method_18_code 26 = .ok (.iconst (-1), 1) := by decide +kernel
theorem d_X6_readName_27 : decode prog_8_method_18_code 27 = .ok (.if_icmp .ne 10, 3) := by decide +kernel
theorem d_X6_readName_30 : decode prog_8_method_18_code 30 = .ok (.aload_n 0, 1) := by decide +kernel
theorem d_X6_readName_31 : decode prog_8_method_18_code 31 = .ok (.iconst 4, 1) := by decide +kernel
theorem d_X6_readName_32 : decode prog_8_method_18_code 32 = .ok (.invokevirtual 101, 3) := by decide +kernel
theorem d_X6_readName_35 : decode prog_8_method_18_code 35 = .ok (.iconst (-1), 1) := by decide +kernel
theorem d_X6_readName_36 : decode prog_8_method_18_code 36 = .ok (.ireturn, 1) := by decide +kernel
theorem d_X6_readName_37 : decode prog_8_method_18_code 37 = .ok (.aload_n 0, 1) := by decide +kernel
theorem d_X6_readName_38 : decode prog_8_method_18_code 38 = .ok (.getfield 25, 3) := by decide +kernel
theorem d_X6_readName_41 : decode prog_8_method_18_code 41 = .ok (.invokevirtual 88, 3) := by decide +kernel
theorem d_X6_readName_44 : decode prog_8_method_18_code 44 = .ok (.aload_n 0, 1) := by decide +kernel
theorem d_X6_readName_45 : decode prog_8_method_18_code 45 = .ok (.getfield 12, 3) := by decide +kernel
theorem d_X6_readName_48 : decode prog_8_method_18_code 48 = .ok (.iload_n 2, 1) := by decide +kernel
theorem d_X6_readName_49 : decode prog_8_method_18_code 49 = .ok (.invokevirtual 192, 3) := by decide +kernel
theorem d_X6_readName_52 : decode prog_8_method_18_code 52 = .ok (.ireturn, 1) := by decide +kernel
theorem d_X6_hasSlot_0 : decode prog_8_method_26_code 0 = .ok (.aload_n 0, 1) := by decide +kernel
theorem d_X6_hasSlot_1 : decode prog_8_method_26_code 1 = .ok (.getfield 32, 3) := by decide +kernel
theorem d_X6_hasSlot_4 : decode prog_8_method_26_code 4 = .ok (.getfield 91, 3) := by decide +kernel
theorem d_X6_hasSlot_7 : decode prog_8_method_26_code 7 = .ok (.aload_n 0, 1) := by decide +kernel
theorem d_X6_hasSlot_8 : decode prog_8_method_26_code 8 = .ok (.iload_n 1, 1) := by decide +kernel
theorem d_X6_hasSlot_9 : decode prog_8_method_26_code 9 = .ok (.invokevirtual 250, 3) := by decide +kernel
theorem d_X6_hasSlot_12 : decode prog_8_method_26_code 12 = .ok (.iload_n 1, 1) := by decide +kernel
theorem d_X6_hasSlot_13 : decode prog_8_method_26_code 13 = .ok (.invokestatic 253, 3) := by decide +kernel
theorem d_X6_hasSlot_16 : decode prog_8_method_26_code 16 = .ok (.invokevirtual 256, 3) := by decide +kernel
theorem d_X6_hasSlot_19 : decode prog_8_method_26_code 19 = .ok (.ireturn, 1) := by decide +kernel
theorem d_X6_slotsFit_0 : decode prog_8_method_22_code 0 = .ok (.iconst 0, 1) := by decide +kernel
theorem d_X6_slotsFit_1 : decode prog_8_method_22_code 1 = .ok (.istore_n 1, 1) := by decide +kernel
theorem d_X6_slotsFit_2 : decode prog_8_method_22_code 2 = .ok (.iload_n 1, 1) := by decide +kernel
theorem d_X6_slotsFit_3 : decode prog_8_method_22_code 3 = .ok (.bipush 8, 2) := by decide +kernel
theorem d_X6_slotsFit_5 : decode prog_8_method_22_code 5 = .ok (.if_icmp .ge 42, 3) := by decide +kernel
theorem d_X6_slotsFit_8 : decode prog_8_method_22_code 8 = .ok (.aload_n 0, 1) := by decide +kernel
theorem d_X6_slotsFit_9 : decode prog_8_method_22_code 9 = .ok (.iload_n 1, 1) := by decide +kernel
theorem d_X6_slotsFit_10 : decode prog_8_method_22_code 10 = .ok (.invokevirtual 234, 3) := by decide +kernel
theorem d_X6_slotsFit_13 : decode prog_8_method_22_code 13 = .ok (.ifCond .eq 28, 3) := by decide +kernel
theorem d_X6_slotsFit_16 : decode prog_8_method_22_code 16 = .ok (.aload_n 0, 1) := by decide +kernel
theorem d_X6_slotsFit_17 : decode prog_8_method_22_code 17 = .ok (.aload_n 0, 1) := by decide +kernel
theorem d_X6_slotsFit_18 : decode prog_8_method_22_code 18 = .ok (.iload_n 1, 1) := by decide +kernel
theorem d_X6_slotsFit_19 : decode prog_8_method_22_code 19 = .ok (.invokevirtual 238, 3) := by decide +kernel
theorem d_X6_slotsFit_22 : decode prog_8_method_22_code 22 = .ok (.aload_n 0, 1) := by decide +kernel
theorem d_X6_slotsFit_23 : decode prog_8_method_22_code 23 = .ok (.getfield 12, 3) := by decide +kernel
theorem d_X6_slotsFit_26 : decode prog_8_method_22_code 26 = .ok (.iload_n 1, 1) := by decide +kernel
theorem d_X6_slotsFit_27 : decode prog_8_method_22_code 27 = .ok (.invokestatic 160, 3) := by decide +kernel
theorem d_X6_slotsFit_30 : decode prog_8_method_22_code 30 = .ok (.invokevirtual 228, 3) := by decide +kernel
theorem d_X6_slotsFit_33 : decode prog_8_method_22_code 33 = .ok (.invokevirtual 231, 3) := by decide +kernel
theorem d_X6_slotsFit_36 : decode prog_8_method_22_code 36 = .ok (.ifCond .ne 5, 3) := by decide +kernel
theorem d_X6_slotsFit_39 : decode prog_8_method_22_code 39 = .ok (.iconst 0, 1) := by decide +kernel
theorem d_X6_slotsFit_40 : decode prog_8_method_22_code 40 = .ok (.ireturn, 1) := by decide +kernel
theorem d_X6_slotsFit_41 : decode prog_8_method_22_code 41 = .ok (.iinc 1 1, 3) := by decide +kernel
theorem d_X6_slotsFit_44 : decode prog_8_method_22_code 44 = .ok (.goto (-42), 3) := by decide +kernel
theorem d_X6_slotsFit_47 : decode prog_8_method_22_code 47 = .ok (.iconst 1, 1) := by decide +kernel
theorem d_X6_slotsFit_48 : decode prog_8_method_22_code 48 = .ok (.ireturn, 1) := by decide +kernel
theorem d_X8_has_0 : decode prog_10_method_4_code 0 = .ok (.iload_n 1, 1) := by decide +kernel
theorem d_X8_has_1 : decode prog_10_method_4_code 1 = .ok (.ifCond .lt 21, 3) := by decide +kernel
theorem d_X8_has_4 : decode prog_10_method_4_code 4 = .ok (.iload_n 1, 1) := by decide +kernel
theorem d_X8_has_5 : decode prog_10_method_4_code 5 = .ok (.aload_n 0, 1) := by decide +kernel
theorem d_X8_has_6 : decode prog_10_method_4_code 6 = .ok (.getfield 39, 3) := by decide +kernel
theorem d_X8_has_9 : decode prog_10_method_4_code 9 = .ok (.if_icmp .ge 13, 3) := by decide +kernel
theorem d_X8_has_12 : decode prog_10_method_4_code 12 = .ok (.iload_n 1, 1) := by decide +kernel
theorem d_X8_has_13 : decode prog_10_method_4_code 13 = .ok (.bipush 60, 2) := by decide +kernel
theorem d_X8_has_15 : decode prog_10_method_4_code 15 = .ok (.if_icmp .ge 7, 3) := by decide +kernel
theorem d_X8_has_18 : decode prog_10_method_4_code 18 = .ok (.iconst 1, 1) := by decide +kernel
theorem d_X8_has_19 : decode prog_10_method_4_code 19 = .ok (.goto 4, 3) := by decide +kernel
theorem d_X8_has_22 : decode prog_10_method_4_code 22 = .ok (.iconst 0, 1) := by decide +kernel
theorem d_X8_has_23 : decode prog_10_method_4_code 23 = .ok (.ireturn, 1) := by decide +kernel
theorem d_X8_addAgent_0 : decode prog_10_method_7_code 0 = .ok (.aload_n 0, 1) := by decide +kernel
theorem d_X8_addAgent_1 : decode prog_10_method_7_code 1 = .ok (.iload_n 1, 1) := by decide +kernel
theorem d_X8_addAgent_2 : decode prog_10_method_7_code 2 = .ok (.invokevirtual 51, 3) := by decide +kernel
theorem d_X8_addAgent_5 : decode prog_10_method_7_code 5 = .ok (.ifCond .eq 41, 3) := by decide +kernel
theorem d_X8_addAgent_8 : decode prog_10_method_7_code 8 = .ok (.aload_n 0, 1) := by decide +kernel
theorem d_X8_addAgent_9 : decode prog_10_method_7_code 9 = .ok (.getfield 18, 3) := by decide +kernel
theorem d_X8_addAgent_12 : decode prog_10_method_7_code 12 = .ok (.iload_n 1, 1) := by decide +kernel
theorem d_X8_addAgent_13 : decode prog_10_method_7_code 13 = .ok (.iaload, 1) := by decide +kernel
theorem d_X8_addAgent_14 : decode prog_10_method_7_code 14 = .ok (.bipush 12, 2) := by decide +kernel
theorem d_X8_addAgent_16 : decode prog_10_method_7_code 16 = .ok (.if_icmp .ge 30, 3) := by decide +kernel
theorem d_X8_addAgent_19 : decode prog_10_method_7_code 19 = .ok (.aload_n 0, 1) := by decide +kernel
theorem d_X8_addAgent_20 : decode prog_10_method_7_code 20 = .ok (.getfield 24, 3) := by decide +kernel
theorem d_X8_addAgent_23 : decode prog_10_method_7_code 23 = .ok (.iload_n 1, 1) := by decide +kernel
theorem d_X8_addAgent_24 : decode prog_10_method_7_code 24 = .ok (.bipush 12, 2) := by decide +kernel
theorem d_X8_addAgent_26 : decode prog_10_method_7_code 26 = .ok (.imul, 1) := by decide +kernel
theorem d_X8_addAgent_27 : decode prog_10_method_7_code 27 = .ok (.aload_n 0, 1) := by decide +kernel
theorem d_X8_addAgent_28 : decode prog_10_method_7_code 28 = .ok (.getfield 18, 3) := by decide +kernel
theorem d_X8_addAgent_31 : decode prog_10_method_7_code 31 = .ok (.iload_n 1, 1) := by decide +kernel
theorem d_X8_addAgent_32 : decode prog_10_method_7_code 32 = .ok (.iaload, 1) := by decide +kernel
theorem d_X8_addAgent_33 : decode prog_10_method_7_code 33 = .ok (.iadd, 1) := by decide +kernel
theorem d_X8_addAgent_34 : decode prog_10_method_7_code 34 = .ok (.iload_n 2, 1) := by decide +kernel
theorem d_X8_addAgent_35 : decode prog_10_method_7_code 35 = .ok (.iastore, 1) := by decide +kernel
theorem d_X8_addAgent_36 : decode prog_10_method_7_code 36 = .ok (.aload_n 0, 1) := by decide +kernel
theorem d_X8_addAgent_37 : decode prog_10_method_7_code 37 = .ok (.getfield 18, 3) := by decide +kernel
theorem d_X8_addAgent_40 : decode prog_10_method_7_code 40 = .ok (.iload_n 1, 1) := by decide +kernel
theorem d_X8_addAgent_41 : decode prog_10_method_7_code 41 = .ok (.dup2, 1) := by decide +kernel
theorem d_X8_addAgent_42 : decode prog_10_method_7_code 42 = .ok (.iaload, 1) := by decide +kernel
theorem d_X8_addAgent_43 : decode prog_10_method_7_code 43 = .ok (.iconst 1, 1) := by decide +kernel
theorem d_X8_addAgent_44 : decode prog_10_method_7_code 44 = .ok (.iadd, 1) := by decide +kernel
theorem d_X8_addAgent_45 : decode prog_10_method_7_code 45 = .ok (.iastore, 1) := by decide +kernel
theorem d_X8_addAgent_46 : decode prog_10_method_7_code 46 = .ok (.return_, 1) := by decide +kernel
theorem d_X8_setRings_0 : decode prog_10_method_8_code 0 = .ok (.aload_n 0, 1) := by decide +kernel
theorem d_X8_setRings_1 : decode prog_10_method_8_code 1 = .ok (.iload_n 1, 1) := by decide +kernel
theorem d_X8_setRings_2 : decode prog_10_method_8_code 2 = .ok (.invokevirtual 51, 3) := by decide +kernel
theorem d_X8_setRings_5 : decode prog_10_method_8_code 5 = .ok (.ifCond .eq 10, 3) := by decide +kernel
theorem d_X8_setRings_8 : decode prog_10_method_8_code 8 = .ok (.aload_n 0, 1) := by decide +kernel
theorem d_X8_setRings_9 : decode prog_10_method_8_code 9 = .ok (.getfield 21, 3) := by decide +kernel
theorem d_X8_setRings_12 : decode prog_10_method_8_code 12 = .ok (.iload_n 1, 1) := by decide +kernel
theorem d_X8_setRings_13 : decode prog_10_method_8_code 13 = .ok (.iload_n 2, 1) := by decide +kernel
theorem d_X8_setRings_14 : decode prog_10_method_8_code 14 = .ok (.iastore, 1) := by decide +kernel
theorem d_X8_setRings_15 : decode prog_10_method_8_code 15 = .ok (.return_, 1) := by decide +kernel
theorem d_X8_setWire_0 : decode prog_10_method_9_code 0 = .ok (.aload_n 0, 1) := by decide +kernel
theorem d_X8_setWire_1 : decode prog_10_method_9_code 1 = .ok (.iload_n 1, 1) := by decide +kernel
theorem d_X8_setWire_2 : decode prog_10_method_9_code 2 = .ok (.invokevirtual 51, 3) := by decide +kernel
theorem d_X8_setWire_5 : decode prog_10_method_9_code 5 = .ok (.ifCond .eq 27, 3) := by decide +kernel
theorem d_X8_setWire_8 : decode prog_10_method_9_code 8 = .ok (.iload_n 2, 1) := by decide +kernel
theorem d_X8_setWire_9 : decode prog_10_method_9_code 9 = .ok (.bipush 96, 2) := by decide +kernel
theorem d_X8_setWire_11 : decode prog_10_method_9_code 11 = .ok (.invokestatic 43, 3) := by decide +kernel
theorem d_X8_setWire_14 : decode prog_10_method_9_code 14 = .ok (.ifCond .eq 18, 3) := by decide +kernel
theorem d_X8_setWire_17 : decode prog_10_method_9_code 17 = .ok (.aload_n 0, 1) := by decide +kernel
theorem d_X8_setWire_18 : decode prog_10_method_9_code 18 = .ok (.getfield 27, 3) := by decide +kernel
theorem d_X8_setWire_21 : decode prog_10_method_9_code 21 = .ok (.iload_n 1, 1) := by decide +kernel
theorem d_X8_setWire_22 : decode prog_10_method_9_code 22 = .ok (.bipush 96, 2) := by decide +kernel
theorem d_X8_setWire_24 : decode prog_10_method_9_code 24 = .ok (.imul, 1) := by decide +kernel
theorem d_X8_setWire_25 : decode prog_10_method_9_code 25 = .ok (.iload_n 2, 1) := by decide +kernel
theorem d_X8_setWire_26 : decode prog_10_method_9_code 26 = .ok (.iadd, 1) := by decide +kernel
theorem d_X8_setWire_27 : decode prog_10_method_9_code 27 = .ok (.iload_n 3, 1) := by decide +kernel
theorem d_X8_setWire_28 : decode prog_10_method_9_code 28 = .ok (.iastore, 1) := by decide +kernel
theorem d_X8_setWire_29 : decode prog_10_method_9_code 29 = .ok (.goto 38, 3) := by decide +kernel
theorem d_X8_setWire_32 : decode prog_10_method_9_code 32 = .ok (.aload_n 0, 1) := by decide +kernel
theorem d_X8_setWire_33 : decode prog_10_method_9_code 33 = .ok (.iload_n 1, 1) := by decide +kernel
theorem d_X8_setWire_34 : decode prog_10_method_9_code 34 = .ok (.invokevirtual 51, 3) := by decide +kernel
theorem d_X8_setWire_37 : decode prog_10_method_9_code 37 = .ok (.ifCond .eq 30, 3) := by decide +kernel
theorem d_X8_setWire_40 : decode prog_10_method_9_code 40 = .ok (.iload_n 2, 1) := by decide +kernel
theorem d_X8_setWire_41 : decode prog_10_method_9_code 41 = .ok (.invokestatic 55, 3) := by decide +kernel
theorem d_X8_setWire_44 : decode prog_10_method_9_code 44 = .ok (.bipush 8, 2) := by decide +kernel
theorem d_X8_setWire_46 : decode prog_10_method_9_code 46 = .ok (.invokestatic 43, 3) := by decide +kernel
theorem d_X8_setWire_49 : decode prog_10_method_9_code 49 = .ok (.ifCond .eq 18, 3) := by decide +kernel
theorem d_X8_setWire_52 : decode prog_10_method_9_code 52 = .ok (.aload_n 0, 1) := by decide +kernel
theorem d_X8_setWire_53 : decode prog_10_method_9_code 53 = .ok (.getfield 30, 3) := by decide +kernel
theorem d_X8_setWire_56 : decode prog_10_method_9_code 56 = .ok (.iload_n 1, 1) := by decide +kernel
theorem d_X8_setWire_57 : decode prog_10_method_9_code 57 = .ok (.bipush 8, 2) := by decide +kernel
theorem d_X8_setWire_59 : decode prog_10_method_9_code 59 = .ok (.imul, 1) := by decide +kernel
theorem d_X8_setWire_60 : decode prog_10_method_9_code 60 = .ok (.iload_n 2, 1) := by decide +kernel
theorem d_X8_setWire_61 : decode prog_10_method_9_code 61 = .ok (.invokestatic 55, 3) := by decide +kernel
theorem d_X8_setWire_64 : decode prog_10_method_9_code 64 = .ok (.iadd, 1) := by decide +kernel
theorem d_X8_setWire_65 : decode prog_10_method_9_code 65 = .ok (.iload_n 3, 1) := by decide +kernel
theorem d_X8_setWire_66 : decode prog_10_method_9_code 66 = .ok (.iastore, 1) := by decide +kernel
theorem d_X8_setWire_67 : decode prog_10_method_9_code 67 = .ok (.return_, 1) := by decide +kernel
theorem d_X6_storeRule_0 : decode prog_8_method_28_code 0 = .ok (.iconst 0, 1) := by decide +kernel
theorem d_X6_storeRule_1 : decode prog_8_method_28_code 1 = .ok (.istore_n 2, 1) := by decide +kernel
theorem d_X6_storeRule_2 : decode prog_8_method_28_code 2 = .ok (.iload_n 2, 1) := by decide +kernel
theorem d_X6_storeRule_3 : decode prog_8_method_28_code 3 = .ok (.aload_n 0, 1) := by decide +kernel
theorem d_X6_storeRule_4 : decode prog_8_method_28_code 4 = .ok (.getfield 12, 3) := by decide +kernel
theorem d_X6_storeRule_7 : decode prog_8_method_28_code 7 = .ok (.getfield 176, 3) := by decide +kernel
theorem d_X6_storeRule_10 : decode prog_8_method_28_code 10 = .ok (.if_icmp .ge 92, 3) := by decide +kernel
theorem d_X6_storeRule_13 : decode prog_8_method_28_code 13 = .ok (.aload_n 0, 1) := by decide +kernel
theorem d_X6_storeRule_14 : decode prog_8_method_28_code 14 = .ok (.getfield 32, 3) := by decide +kernel
theorem d_X6_storeRule_17 : decode prog_8_method_28_code 17 = .ok (.getfield 129, 3) := by decide +kernel
theorem d_X6_storeRule_20 : decode prog_8_method_28_code 20 = .ok (.iload_n 1, 1) := by decide +kernel
theorem d_X6_storeRule_21 : decode prog_8_method_28_code 21 = .ok (.aload_n 0, 1) := by decide +kernel
theorem d_X6_storeRule_22 : decode prog_8_method_28_code 22 = .ok (.getfield 12, 3) := by decide +kernel
theorem d_X6_storeRule_25 : decode prog_8_method_28_code 25 = .ok (.iload_n 2, 1) := by decide +kernel
theorem d_X6_storeRule_26 : decode prog_8_method_28_code 26 = .ok (.invokevirtual 222, 3) := by decide +kernel
theorem d_X6_storeRule_29 : decode prog_8_method_28_code 29 = .ok (.invokevirtual 259, 3) := by decide +kernel
theorem d_X6_storeRule_32 : decode prog_8_method_28_code 32 = .ok (.aload_n 0, 1) := by decide +kernel
theorem d_X6_storeRule_33 : decode prog_8_method_28_code 33 = .ok (.getfield 32, 3) := by decide +kernel
theorem d_X6_storeRule_36 : decode prog_8_method_28_code 36 = .ok (.getfield 91, 3) := by decide +kernel
theorem d_X6_storeRule_39 : decode prog_8_method_28_code 39 = .ok (.aload_n 0, 1) := by decide +kernel
theorem d_X6_storeRule_40 : decode prog_8_method_28_code 40 = .ok (.getfield 12, 3) := by decide +kernel
theorem d_X6_storeRule_43 : decode prog_8_method_28_code 43 = .ok (.iload_n 2, 1) := by decide +kernel
theorem d_X6_storeRule_44 : decode prog_8_method_28_code 44 = .ok (.invokevirtual 222, 3) := by decide +kernel
theorem d_X6_storeRule_47 : decode prog_8_method_28_code 47 = .ok (.invokevirtual 167, 3) := by decide +kernel
theorem d_X6_storeRule_50 : decode prog_8_method_28_code 50 = .ok (.istore_n 3, 1) := by decide +kernel
theorem d_X6_storeRule_51 : decode prog_8_method_28_code 51 = .ok (.iconst 0, 1) := by decide +kernel
theorem d_X6_storeRule_52 : decode prog_8_method_28_code 52 = .ok (.istore 4, 2) := by decide +kernel
theorem d_X6_storeRule_54 : decode prog_8_method_28_code 54 = .ok (.iload 4, 2) := by decide +kernel
theorem d_X6_storeRule_56 : decode prog_8_method_28_code 56 = .ok (.iload_n 3, 1) := by decide +kernel
theorem d_X6_storeRule_57 : decode prog_8_method_28_code 57 = .ok (.if_icmp .ge 39, 3) := by decide +kernel
theorem d_X6_storeRule_60 : decode prog_8_method_28_code 60 = .ok (.aload_n 0, 1) := by decide +kernel
theorem d_X6_storeRule_61 : decode prog_8_method_28_code 61 = .ok (.getfield 32, 3) := by decide +kernel
theorem d_X6_storeRule_64 : decode prog_8_method_28_code 64 = .ok (.getfield 129, 3) := by decide +kernel
theorem d_X6_storeRule_67 : decode prog_8_method_28_code 67 = .ok (.iload_n 1, 1) := by decide +kernel
theorem d_X6_storeRule_68 : decode prog_8_method_28_code 68 = .ok (.iload_n 2, 1) := by decide +kernel
theorem d_X6_storeRule_69 : decode prog_8_method_28_code 69 = .ok (.iload 4, 2) := by decide +kernel
theorem d_X6_storeRule_71 : decode prog_8_method_28_code 71 = .ok (.invokestatic 186, 3) := by decide +kernel
theorem d_X6_storeRule_74 : decode prog_8_method_28_code 74 = .ok (.aload_n 0, 1) := by decide +kernel
theorem d_X6_storeRule_75 : decode prog_8_method_28_code 75 = .ok (.getfield 12, 3) := by decide +kernel
theorem d_X6_storeRule_78 : decode prog_8_method_28_code 78 = .ok (.iload_n 2, 1) := by decide +kernel
theorem d_X6_storeRule_79 : decode prog_8_method_28_code 79 = .ok (.iload 4, 2) := by decide +kernel
theorem d_X6_storeRule_81 : decode prog_8_method_28_code 81 = .ok (.invokestatic 186, 3) := by decide +kernel
theorem d_X6_storeRule_84 : decode prog_8_method_28_code 84 = .ok (.invokevirtual 228, 3) := by decide +kernel
theorem d_X6_storeRule_87 : decode prog_8_method_28_code 87 = .ok (.invokevirtual 261, 3) := by decide +kernel
theorem d_X6_storeRule_90 : decode prog_8_method_28_code 90 = .ok (.iinc 4 1, 3) := by decide +kernel
theorem d_X6_storeRule_93 : decode prog_8_method_28_code 93 = .ok (.goto (-39), 3) := by decide +kernel
theorem d_X6_storeRule_96 : decode prog_8_method_28_code 96 = .ok (.iinc 2 1, 3) := by decide +kernel
theorem d_X6_storeRule_99 : decode prog_8_method_28_code 99 = .ok (.goto (-97), 3) := by decide +kernel
theorem d_X6_storeRule_102 : decode prog_8_method_28_code 102 = .ok (.iconst 0, 1) := by decide +kernel
theorem d_X6_storeRule_103 : decode prog_8_method_28_code 103 = .ok (.istore_n 2, 1) := by decide +kernel
theorem d_X6_storeRule_104 : decode prog_8_method_28_code 104 = .ok (.iload_n 2, 1) := by decide +kernel
theorem d_X6_storeRule_105 : decode prog_8_method_28_code 105 = .ok (.bipush 8, 2) := by decide +kernel
theorem d_X6_storeRule_107 : decode prog_8_method_28_code 107 = .ok (.if_icmp .ge 43, 3) := by decide +kernel
theorem d_X6_storeRule_110 : decode prog_8_method_28_code 110 = .ok (.aload_n 0, 1) := by decide +kernel
theorem d_X6_storeRule_111 : decode prog_8_method_28_code 111 = .ok (.iload_n 2, 1) := by decide +kernel
theorem d_X6_storeRule_112 : decode prog_8_method_28_code 112 = .ok (.invokevirtual 234, 3) := by decide +kernel
theorem d_X6_storeRule_115 : decode prog_8_method_28_code 115 = .ok (.ifCond .eq 29, 3) := by decide +kernel
theorem d_X6_storeRule_118 : decode prog_8_method_28_code 118 = .ok (.aload_n 0, 1) := by decide +kernel
theorem d_X6_storeRule_119 : decode prog_8_method_28_code 119 = .ok (.getfield 32, 3) := by decide +kernel
theorem d_X6_storeRule_122 : decode prog_8_method_28_code 122 = .ok (.getfield 129, 3) := by decide +kernel
theorem d_X6_storeRule_125 : decode prog_8_method_28_code 125 = .ok (.iload_n 1, 1) := by decide +kernel
theorem d_X6_storeRule_126 : decode prog_8_method_28_code 126 = .ok (.iload_n 2, 1) := by decide +kernel
theorem d_X6_storeRule_127 : decode prog_8_method_28_code 127 = .ok (.invokestatic 264, 3) := by decide +kernel
theorem d_X6_storeRule_130 : decode prog_8_method_28_code 130 = .ok (.aload_n 0, 1) := by decide +kernel
theorem d_X6_storeRule_131 : decode prog_8_method_28_code 131 = .ok (.getfield 12, 3) := by decide +kernel
theorem d_X6_storeRule_134 : decode prog_8_method_28_code 134 = .ok (.iload_n 2, 1) := by decide +kernel
theorem d_X6_storeRule_135 : decode prog_8_method_28_code 135 = .ok (.invokestatic 160, 3) := by decide +kernel
theorem d_X6_storeRule_138 : decode prog_8_method_28_code 138 = .ok (.invokevirtual 228, 3) := by decide +kernel
theorem d_X6_storeRule_141 : decode prog_8_method_28_code 141 = .ok (.invokevirtual 261, 3) := by decide +kernel
theorem d_X6_storeRule_144 : decode prog_8_method_28_code 144 = .ok (.iinc 2 1, 3) := by decide +kernel
theorem d_X6_storeRule_147 : decode prog_8_method_28_code 147 = .ok (.goto (-43), 3) := by decide +kernel
theorem d_X6_storeRule_150 : decode prog_8_method_28_code 150 = .ok (.aload_n 0, 1) := by decide +kernel
theorem d_X6_storeRule_151 : decode prog_8_method_28_code 151 = .ok (.getfield 32, 3) := by decide +kernel
theorem d_X6_storeRule_154 : decode prog_8_method_28_code 154 = .ok (.getfield 129, 3) := by decide +kernel
theorem d_X6_storeRule_157 : decode prog_8_method_28_code 157 = .ok (.iload_n 1, 1) := by decide +kernel
theorem d_X6_storeRule_158 : decode prog_8_method_28_code 158 = .ok (.aload_n 0, 1) := by decide +kernel
theorem d_X6_storeRule_159 : decode prog_8_method_28_code 159 = .ok (.getfield 12, 3) := by decide +kernel
theorem d_X6_storeRule_162 : decode prog_8_method_28_code 162 = .ok (.invokevirtual 267, 3) := by decide +kernel
theorem d_X6_storeRule_165 : decode prog_8_method_28_code 165 = .ok (.invokevirtual 271, 3) := by decide +kernel
theorem d_X6_storeRule_168 : decode prog_8_method_28_code 168 = .ok (.return_, 1) := by decide +kernel
theorem d_X8_isFull_0 : decode prog_10_method_3_code 0 = .ok (.aload_n 0, 1) := by decide +kernel
theorem d_X8_isFull_1 : decode prog_10_method_3_code 1 = .ok (.getfield 39, 3) := by decide +kernel
theorem d_X8_isFull_4 : decode prog_10_method_3_code 4 = .ok (.bipush 60, 2) := by decide +kernel
theorem d_X8_isFull_6 : decode prog_10_method_3_code 6 = .ok (.if_icmp .lt 7, 3) := by decide +kernel
theorem d_X8_isFull_9 : decode prog_10_method_3_code 9 = .ok (.iconst 1, 1) := by decide +kernel
theorem d_X8_isFull_10 : decode prog_10_method_3_code 10 = .ok (.goto 4, 3) := by decide +kernel
theorem d_X8_isFull_13 : decode prog_10_method_3_code 13 = .ok (.iconst 0, 1) := by decide +kernel
theorem d_X8_isFull_14 : decode prog_10_method_3_code 14 = .ok (.ireturn, 1) := by decide +kernel
theorem d_X8_add_0 : decode prog_10_method_6_code 0 = .ok (.aload_n 0, 1) := by decide +kernel
theorem d_X8_add_1 : decode prog_10_method_6_code 1 = .ok (.invokevirtual 47, 3) := by decide +kernel
theorem d_X8_add_4 : decode prog_10_method_6_code 4 = .ok (.ifCond .ne 21, 3) := by decide +kernel
theorem d_X8_add_7 : decode prog_10_method_6_code 7 = .ok (.iload_n 1, 1) := by decide +kernel
theorem d_X8_add_8 : decode prog_10_method_6_code 8 = .ok (.bipush 16, 2) := by decide +kernel
theorem d_X8_add_10 : decode prog_10_method_6_code 10 = .ok (.invokestatic 43, 3) := by decide +kernel
theorem d_X8_add_13 : decode prog_10_method_6_code 13 = .ok (.ifCond .eq 12, 3) := by decide +kernel
theorem d_X8_add_16 : decode prog_10_method_6_code 16 = .ok (.iload_n 2, 1) := by decide +kernel
theorem d_X8_add_17 : decode prog_10_method_6_code 17 = .ok (.bipush 16, 2) := by decide +kernel
theorem d_X8_add_19 : decode prog_10_method_6_code 19 = .ok (.invokestatic 43, 3) := by decide +kernel
theorem d_X8_add_22 : decode prog_10_method_6_code 22 = .ok (.ifCond .ne 5, 3) := by decide +kernel
theorem d_X8_add_25 : decode prog_10_method_6_code 25 = .ok (.iconst (-1), 1) := by decide +kernel
theorem d_X8_add_26 : decode prog_10_method_6_code 26 = .ok (.ireturn, 1) := by decide +kernel
theorem d_X8_add_27 : decode prog_10_method_6_code 27 = .ok (.aload_n 0, 1) := by decide +kernel
theorem d_X8_add_28 : decode prog_10_method_6_code 28 = .ok (.getfield 39, 3) := by decide +kernel
theorem d_X8_add_31 : decode prog_10_method_6_code 31 = .ok (.istore_n 3, 1) := by decide +kernel
theorem d_X8_add_32 : decode prog_10_method_6_code 32 = .ok (.aload_n 0, 1) := by decide +kernel
theorem d_X8_add_33 : decode prog_10_method_6_code 33 = .ok (.getfield 9, 3) := by decide +kernel
theorem d_X8_add_36 : decode prog_10_method_6_code 36 = .ok (.iload_n 1, 1) := by decide +kernel
theorem d_X8_add_37 : decode prog_10_method_6_code 37 = .ok (.bipush 16, 2) := by decide +kernel
theorem d_X8_add_39 : decode prog_10_method_6_code 39 = .ok (.imul, 1) := by decide +kernel
theorem d_X8_add_40 : decode prog_10_method_6_code 40 = .ok (.iload_n 2, 1) := by decide +kernel
theorem d_X8_add_41 : decode prog_10_method_6_code 41 = .ok (.iadd, 1) := by decide +kernel
theorem d_X8_add_42 : decode prog_10_method_6_code 42 = .ok (.iload_n 3, 1) := by decide +kernel
theorem d_X8_add_43 : decode prog_10_method_6_code 43 = .ok (.iastore, 1) := by decide +kernel
theorem d_X8_add_44 : decode prog_10_method_6_code 44 = .ok (.aload_n 0, 1) := by decide +kernel
theorem d_X8_add_45 : decode prog_10_method_6_code 45 = .ok (.getfield 9, 3) := by decide +kernel
theorem d_X8_add_48 : decode prog_10_method_6_code 48 = .ok (.iload_n 2, 1) := by decide +kernel
theorem d_X8_add_49 : decode prog_10_method_6_code 49 = .ok (.bipush 16, 2) := by decide +kernel
theorem d_X8_add_51 : decode prog_10_method_6_code 51 = .ok (.imul, 1) := by decide +kernel
theorem d_X8_add_52 : decode prog_10_method_6_code 52 = .ok (.iload_n 1, 1) := by decide +kernel
theorem d_X8_add_53 : decode prog_10_method_6_code 53 = .ok (.iadd, 1) := by decide +kernel
theorem d_X8_add_54 : decode prog_10_method_6_code 54 = .ok (.iload_n 3, 1) := by decide +kernel
theorem d_X8_add_55 : decode prog_10_method_6_code 55 = .ok (.iastore, 1) := by decide +kernel
theorem d_X8_add_56 : decode prog_10_method_6_code 56 = .ok (.aload_n 0, 1) := by decide +kernel
theorem d_X8_add_57 : decode prog_10_method_6_code 57 = .ok (.getfield 15, 3) := by decide +kernel
theorem d_X8_add_60 : decode prog_10_method_6_code 60 = .ok (.iload_n 3, 1) := by decide +kernel
theorem d_X8_add_61 : decode prog_10_method_6_code 61 = .ok (.iload_n 1, 1) := by decide +kernel
theorem d_X8_add_62 : decode prog_10_method_6_code 62 = .ok (.iastore, 1) := by decide +kernel
theorem d_X8_add_63 : decode prog_10_method_6_code 63 = .ok (.aload_n 0, 1) := by decide +kernel
theorem d_X8_add_64 : decode prog_10_method_6_code 64 = .ok (.getfield 18, 3) := by decide +kernel
theorem d_X8_add_67 : decode prog_10_method_6_code 67 = .ok (.iload_n 3, 1) := by decide +kernel
theorem d_X8_add_68 : decode prog_10_method_6_code 68 = .ok (.iconst 0, 1) := by decide +kernel
theorem d_X8_add_69 : decode prog_10_method_6_code 69 = .ok (.iastore, 1) := by decide +kernel
theorem d_X8_add_70 : decode prog_10_method_6_code 70 = .ok (.aload_n 0, 1) := by decide +kernel
theorem d_X8_add_71 : decode prog_10_method_6_code 71 = .ok (.getfield 21, 3) := by decide +kernel
theorem d_X8_add_74 : decode prog_10_method_6_code 74 = .ok (.iload_n 3, 1) := by decide +kernel
theorem d_X8_add_75 : decode prog_10_method_6_code 75 = .ok (.iconst 0, 1) := by decide +kernel
theorem d_X8_add_76 : decode prog_10_method_6_code 76 = .ok (.iastore, 1) := by decide +kernel
theorem d_X8_add_77 : decode prog_10_method_6_code 77 = .ok (.aload_n 0, 1) := by decide +kernel
theorem d_X8_add_78 : decode prog_10_method_6_code 78 = .ok (.dup, 1) := by decide +kernel
theorem d_X8_add_79 : decode prog_10_method_6_code 79 = .ok (.getfield 39, 3) := by decide +kernel
theorem d_X8_add_82 : decode prog_10_method_6_code 82 = .ok (.iconst 1, 1) := by decide +kernel
theorem d_X8_add_83 : decode prog_10_method_6_code 83 = .ok (.iadd, 1) := by decide +kernel
theorem d_X8_add_84 : decode prog_10_method_6_code 84 = .ok (.putfield 39, 3) := by decide +kernel
theorem d_X8_add_87 : decode prog_10_method_6_code 87 = .ok (.iload_n 3, 1) := by decide +kernel
theorem d_X8_add_88 : decode prog_10_method_6_code 88 = .ok (.ireturn, 1) := by decide +kernel
theorem d_X6_endRule_0 : decode prog_8_method_19_code 0 = .ok (.aload_n 0, 1) := by decide +kernel
theorem d_X6_endRule_1 : decode prog_8_method_19_code 1 = .ok (.getfield 18, 3) := by decide +kernel
theorem d_X6_endRule_4 : decode prog_8_method_19_code 4 = .ok (.iconst 0, 1) := by decide +kernel
theorem d_X6_endRule_5 : decode prog_8_method_19_code 5 = .ok (.iaload, 1) := by decide +kernel
theorem d_X6_endRule_6 : decode prog_8_method_19_code 6 = .ok (.istore_n 1, 1) := by decide +kernel
theorem d_X6_endRule_7 : decode prog_8_method_19_code 7 = .ok (.aload_n 0, 1) := by decide +kernel
theorem d_X6_endRule_8 : decode prog_8_method_19_code 8 = .ok (.getfield 18, 3) := by decide +kernel
theorem d_X6_endRule_11 : decode prog_8_method_19_code 11 = .ok (.iconst 1, 1) := by decide +kernel
theorem d_X6_endRule_12 : decode prog_8_method_19_code 12 = .ok (.iaload, 1) := by decide +kernel
theorem d_X6_endRule_13 : decode prog_8_method_19_code 13 = .ok (.istore_n 2, 1) := by decide +kernel
theorem d_X6_endRule_14 : decode prog_8_method_19_code 14 = .ok (.aload_n 0, 1) := by decide +kernel
theorem d_X6_endRule_15 : decode prog_8_method_19_code 15 = .ok (.getfield 25, 3) := by decide +kernel
theorem d_X6_endRule_18 : decode prog_8_method_19_code 18 = .ok (.getfield 53, 3) := by decide +kernel
theorem d_X6_endRule_21 : decode prog_8_method_19_code 21 = .ok (.bipush 59, 2) := by decide +kernel
theorem d_X6_endRule_23 : decode prog_8_method_19_code 23 = .ok (.if_icmp .eq 10, 3) := by decide +kernel
theorem d_X6_endRule_26 : decode prog_8_method_19_code 26 = .ok (.aload_n 0, 1) := by decide +kernel
theorem d_X6_endRule_27 : decode prog_8_method_19_code 27 = .ok (.invokevirtual 75, 3) := by decide +kernel
theorem d_X6_endRule_30 : decode prog_8_method_19_code 30 = .ok (.goto 100, 3) := by decide +kernel
theorem d_X6_endRule_33 : decode prog_8_method_19_code 33 = .ok (.aload_n 0, 1) := by decide +kernel
theorem d_X6_endRule_34 : decode prog_8_method_19_code 34 = .ok (.getfield 32, 3) := by decide +kernel
theorem d_X6_endRule_37 : decode prog_8_method_19_code 37 = .ok (.getfield 129, 3) := by decide +kernel
theorem d_X6_endRule_40 : decode prog_8_method_19_code 40 = .ok (.iload_n 1, 1) := by decide +kernel
theorem d_X6_endRule_41 : decode prog_8_method_19_code 41 = .ok (.iload_n 2, 1) := by decide +kernel
theorem d_X6_endRule_42 : decode prog_8_method_19_code 42 = .ok (.invokevirtual 195, 3) := by decide +kernel
theorem d_X6_endRule_45 : decode prog_8_method_19_code 45 = .ok (.iconst (-1), 1) := by decide +kernel
theorem d_X6_endRule_46 : decode prog_8_method_19_code 46 = .ok (.if_icmp .ne 29, 3) := by decide +kernel
theorem d_X6_endRule_49 : decode prog_8_method_19_code 49 = .ok (.aload_n 0, 1) := by decide +kernel
theorem d_X6_endRule_50 : decode prog_8_method_19_code 50 = .ok (.getfield 12, 3) := by decide +kernel
theorem d_X6_endRule_53 : decode prog_8_method_19_code 53 = .ok (.iconst 1, 1) := by decide +kernel
theorem d_X6_endRule_54 : decode prog_8_method_19_code 54 = .ok (.iconst 1, 1) := by decide +kernel
theorem d_X6_endRule_55 : decode prog_8_method_19_code 55 = .ok (.invokevirtual 198, 3) := by decide +kernel
theorem d_X6_endRule_58 : decode prog_8_method_19_code 58 = .ok (.ifCond .ne 17, 3) := by decide +kernel
theorem d_X6_endRule_61 : decode prog_8_method_19_code 61 = .ok (.aload_n 0, 1) := by decide +kernel
theorem d_X6_endRule_62 : decode prog_8_method_19_code 62 = .ok (.getfield 12, 3) := by decide +kernel
theorem d_X6_endRule_65 : decode prog_8_method_19_code 65 = .ok (.iconst 3, 1) := by decide +kernel
theorem d_X6_endRule_66 : decode prog_8_method_19_code 66 = .ok (.sipush 4000, 3) := by decide +kernel
theorem d_X6_endRule_69 : decode prog_8_method_19_code 69 = .ok (.invokevirtual 198, 3) := by decide +kernel
theorem d_X6_endRule_72 : decode prog_8_method_19_code 72 = .ok (.ifCond .eq 12, 3) := by decide +kernel
theorem d_X6_endRule_75 : decode prog_8_method_19_code 75 = .ok (.aload_n 0, 1) := by decide +kernel
theorem d_X6_endRule_76 : decode prog_8_method_19_code 76 = .ok (.bipush 6, 2) := by decide +kernel
theorem d_X6_endRule_78 : decode prog_8_method_19_code 78 = .ok (.invokevirtual 101, 3) := by decide +kernel
theorem d_X6_endRule_81 : decode prog_8_method_19_code 81 = .ok (.goto 49, 3) := by decide +kernel
theorem d_X6_endRule_84 : decode prog_8_method_19_code 84 = .ok (.aload_n 0, 1) := by decide +kernel
theorem d_X6_endRule_85 : decode prog_8_method_19_code 85 = .ok (.invokevirtual 202, 3) := by decide +kernel
theorem d_X6_endRule_88 : decode prog_8_method_19_code 88 = .ok (.ifCond .eq 10, 3) := by decide +kernel
theorem d_X6_endRule_91 : decode prog_8_method_19_code 91 = .ok (.aload_n 0, 1) := by decide +kernel
theorem d_X6_endRule_92 : decode prog_8_method_19_code 92 = .ok (.invokevirtual 205, 3) := by decide +kernel
theorem d_X6_endRule_95 : decode prog_8_method_19_code 95 = .ok (.ifCond .ne 12, 3) := by decide +kernel
theorem d_X6_endRule_98 : decode prog_8_method_19_code 98 = .ok (.aload_n 0, 1) := by decide +kernel
theorem d_X6_endRule_99 : decode prog_8_method_19_code 99 = .ok (.bipush 7, 2) := by decide +kernel
theorem d_X6_endRule_101 : decode prog_8_method_19_code 101 = .ok (.invokevirtual 101, 3) := by decide +kernel
theorem d_X6_endRule_104 : decode prog_8_method_19_code 104 = .ok (.goto 26, 3) := by decide +kernel
theorem d_X6_endRule_107 : decode prog_8_method_19_code 107 = .ok (.aload_n 0, 1) := by decide +kernel
theorem d_X6_endRule_108 : decode prog_8_method_19_code 108 = .ok (.aload_n 0, 1) := by decide +kernel
theorem d_X6_endRule_109 : decode prog_8_method_19_code 109 = .ok (.getfield 32, 3) := by decide +kernel
theorem d_X6_endRule_112 : decode prog_8_method_19_code 112 = .ok (.getfield 129, 3) := by decide +kernel
theorem d_X6_endRule_115 : decode prog_8_method_19_code 115 = .ok (.iload_n 1, 1) := by decide +kernel
theorem d_X6_endRule_116 : decode prog_8_method_19_code 116 = .ok (.iload_n 2, 1) := by decide +kernel
theorem d_X6_endRule_117 : decode prog_8_method_19_code 117 = .ok (.invokevirtual 208, 3) := by decide +kernel
theorem d_X6_endRule_120 : decode prog_8_method_19_code 120 = .ok (.invokevirtual 210, 3) := by decide +kernel
theorem d_X6_endRule_123 : decode prog_8_method_19_code 123 = .ok (.aload_n 0, 1) := by decide +kernel
theorem d_X6_endRule_124 : decode prog_8_method_19_code 124 = .ok (.getfield 25, 3) := by decide +kernel
theorem d_X6_endRule_127 : decode prog_8_method_19_code 127 = .ok (.invokevirtual 88, 3) := by decide +kernel
theorem d_X6_endRule_130 : decode prog_8_method_19_code 130 = .ok (.return_, 1) := by decide +kernel
theorem d_X6_readSideNames_0 : decode prog_8_method_12_code 0 = .ok (.iconst 0, 1) := by decide +kernel
theorem d_X6_readSideNames_1 : decode prog_8_method_12_code 1 = .ok (.istore_n 2, 1) := by decide +kernel
theorem d_X6_readSideNames_2 : decode prog_8_method_12_code 2 = .ok (.aload_n 0, 1) := by decide +kernel
theorem d_X6_readSideNames_3 : decode prog_8_method_12_code 3 = .ok (.getfield 25, 3) := by decide +kernel
theorem d_X6_readSideNames_6 : decode prog_8_method_12_code 6 = .ok (.invokevirtual 88, 3) := by decide +kernel
theorem d_X6_readSideNames_9 : decode prog_8_method_12_code 9 = .ok (.aload_n 0, 1) := by decide +kernel
theorem d_X6_readSideNames_10 : decode prog_8_method_12_code 10 = .ok (.getfield 25, 3) := by decide +kernel
theorem d_X6_readSideNames_13 : decode prog_8_method_12_code 13 = .ok (.getfield 53, 3) := by decide +kernel
theorem d_X6_readSideNames_16 : decode prog_8_method_12_code 16 = .ok (.iconst 2, 1) := by decide +kernel
theorem d_X6_readSideNames_17 : decode prog_8_method_12_code 17 = .ok (.if_icmp .eq 9, 3) := by decide +kernel
theorem d_X6_readSideNames_20 : decode prog_8_method_12_code 20 = .ok (.aload_n 0, 1) := by decide +kernel
theorem d_X6_readSideNames_21 : decode prog_8_method_12_code 21 = .ok (.invokevirtual 75, 3) := by decide +kernel
theorem d_X6_readSideNames_24 : decode prog_8_method_12_code 24 = .ok (.iload_n 2, 1) := by decide +kernel
theorem d_X6_readSideNames_25 : decode prog_8_method_12_code 25 = .ok (.ireturn, 1) := by decide +kernel
theorem d_X6_readSideNames_26 : decode prog_8_method_12_code 26 = .ok (.aload_n 0, 1) := by decide +kernel
theorem d_X6_readSideNames_27 : decode prog_8_method_12_code 27 = .ok (.iconst 0, 1) := by decide +kernel
theorem d_X6_readSideNames_28 : decode prog_8_method_12_code 28 = .ok (.invokevirtual 157, 3) := by decide +kernel
theorem d_X6_readSideNames_31 : decode prog_8_method_12_code 31 = .ok (.istore_n 3, 1) := by decide +kernel
theorem d_X6_readSideNames_32 : decode prog_8_method_12_code 32 = .ok (.iload_n 2, 1) := by decide +kernel
theorem d_X6_readSideNames_33 : decode prog_8_method_12_code 33 = .ok (.iconst 4, 1) := by decide +kernel
theorem d_X6_readSideNames_34 : decode prog_8_method_12_code 34 = .ok (.if_icmp .ge 19, 3) := by decide +kernel
theorem d_X6_readSideNames_37 : decode prog_8_method_12_code 37 = .ok (.aload_n 0, 1) := by decide +kernel
theorem d_X6_readSideNames_38 : decode prog_8_method_12_code 38 = .ok (.getfield 12, 3) := by decide +kernel
theorem d_X6_readSideNames_41 : decode prog_8_method_12_code 41 = .ok (.iload_n 1, 1) := by decide +kernel
theorem d_X6_readSideNames_42 : decode prog_8_method_12_code 42 = .ok (.iconst 4, 1) := by decide +kernel
theorem d_X6_readSideNames_43 : decode prog_8_method_12_code 43 = .ok (.imul, 1) := by decide +kernel
theorem d_X6_readSideNames_44 : decode prog_8_method_12_code 44 = .ok (.iload_n 2, 1) := by decide +kernel
theorem d_X6_readSideNames_45 : decode prog_8_method_12_code 45 = .ok (.iadd, 1) := by decide +kernel
theorem d_X6_readSideNames_46 : decode prog_8_method_12_code 46 = .ok (.invokestatic 160, 3) := by decide +kernel
theorem d_X6_readSideNames_49 : decode prog_8_method_12_code 49 = .ok (.iload_n 3, 1) := by decide +kernel
theorem d_X6_readSideNames_50 : decode prog_8_method_12_code 50 = .ok (.invokevirtual 163, 3) := by decide +kernel
theorem d_X6_readSideNames_53 : decode prog_8_method_12_code 53 = .ok (.iinc 2 1, 3) := by decide +kernel
theorem d_X6_readSideNames_56 : decode prog_8_method_12_code 56 = .ok (.aload_n 0, 1) := by decide +kernel
theorem d_X6_readSideNames_57 : decode prog_8_method_12_code 57 = .ok (.getfield 47, 3) := by decide +kernel
theorem d_X6_readSideNames_60 : decode prog_8_method_12_code 60 = .ok (.ifCond .ne 22, 3) := by decide +kernel
theorem d_X6_readSideNames_63 : decode prog_8_method_12_code 63 = .ok (.aload_n 0, 1) := by decide +kernel
theorem d_X6_readSideNames_64 : decode prog_8_method_12_code 64 = .ok (.getfield 25, 3) := by decide +kernel
theorem d_X6_readSideNames_67 : decode prog_8_method_12_code 67 = .ok (.getfield 53, 3) := by decide +kernel
theorem d_X6_readSideNames_70 : decode prog_8_method_12_code 70 = .ok (.bipush 44, 2) := by decide +kernel
theorem d_X6_readSideNames_72 : decode prog_8_method_12_code 72 = .ok (.if_icmp .ne 10, 3) := by decide +kernel
theorem d_X6_readSideNames_75 : decode prog_8_method_12_code 75 = .ok (.iload_n 2, 1) := by decide +kernel
theorem d_X6_readSideNames_76 : decode prog_8_method_12_code 76 = .ok (.sipush 4000, 3) := by decide +kernel
theorem d_X6_readSideNames_79 : decode prog_8_method_12_code 79 = .ok (.if_icmp .lt (-77), 3) := by decide +kernel
theorem d_X6_readSideNames_82 : decode prog_8_method_12_code 82 = .ok (.aload_n 0, 1) := by decide +kernel
theorem d_X6_readSideNames_83 : decode prog_8_method_12_code 83 = .ok (.getfield 47, 3) := by decide +kernel
theorem d_X6_readSideNames_86 : decode prog_8_method_12_code 86 = .ok (.ifCond .ne 9, 3) := by decide +kernel
theorem d_X6_readSideNames_89 : decode prog_8_method_12_code 89 = .ok (.aload_n 0, 1) := by decide +kernel
theorem d_X6_readSideNames_90 : decode prog_8_method_12_code 90 = .ok (.bipush 41, 2) := by decide +kernel
theorem d_X6_readSideNames_92 : decode prog_8_method_12_code 92 = .ok (.invokevirtual 119, 3) := by decide +kernel
theorem d_X6_readSideNames_95 : decode prog_8_method_12_code 95 = .ok (.iload_n 2, 1) := by decide +kernel
theorem d_X6_readSideNames_96 : decode prog_8_method_12_code 96 = .ok (.ireturn, 1) := by decide +kernel
theorem d_X6_readSide_0 : decode prog_8_method_11_code 0 = .ok (.aload_n 0, 1) := by decide +kernel
theorem d_X6_readSide_1 : decode prog_8_method_11_code 1 = .ok (.getfield 25, 3) := by decide +kernel
theorem d_X6_readSide_4 : decode prog_8_method_11_code 4 = .ok (.getfield 53, 3) := by decide +kernel
theorem d_X6_readSide_7 : decode prog_8_method_11_code 7 = .ok (.iconst 3, 1) := by decide +kernel
theorem d_X6_readSide_8 : decode prog_8_method_11_code 8 = .ok (.if_icmp .ne 23, 3) := by decide +kernel
theorem d_X6_readSide_11 : decode prog_8_method_11_code 11 = .ok (.aload_n 0, 1) := by decide +kernel
theorem d_X6_readSide_12 : decode prog_8_method_11_code 12 = .ok (.getfield 32, 3) := by decide +kernel
theorem d_X6_readSide_15 : decode prog_8_method_11_code 15 = .ok (.getfield 91, 3) := by decide +kernel
theorem d_X6_readSide_18 : decode prog_8_method_11_code 18 = .ok (.aload_n 0, 1) := by decide +kernel
theorem d_X6_readSide_19 : decode prog_8_method_11_code 19 = .ok (.getfield 25, 3) := by decide +kernel
theorem d_X6_readSide_22 : decode prog_8_method_11_code 22 = .ok (.getfield 81, 3) := by decide +kernel
theorem d_X6_readSide_25 : decode prog_8_method_11_code 25 = .ok (.invokevirtual 95, 3) := by decide +kernel
theorem d_X6_readSide_28 : decode prog_8_method_11_code 28 = .ok (.goto 4, 3) := by decide +kernel
theorem d_X6_readSide_31 : decode prog_8_method_11_code 31 = .ok (.iconst (-1), 1) := by decide +kernel
theorem d_X6_readSide_32 : decode prog_8_method_11_code 32 = .ok (.istore_n 2, 1) := by decide +kernel
theorem d_X6_readSide_33 : decode prog_8_method_11_code 33 = .ok (.aload_n 0, 1) := by decide +kernel
theorem d_X6_readSide_34 : decode prog_8_method_11_code 34 = .ok (.getfield 25, 3) := by decide +kernel
theorem d_X6_readSide_37 : decode prog_8_method_11_code 37 = .ok (.getfield 53, 3) := by decide +kernel
theorem d_X6_readSide_40 : decode prog_8_method_11_code 40 = .ok (.iconst 3, 1) := by decide +kernel
theorem d_X6_readSide_41 : decode prog_8_method_11_code 41 = .ok (.if_icmp .eq 10, 3) := by decide +kernel
theorem d_X6_readSide_44 : decode prog_8_method_11_code 44 = .ok (.aload_n 0, 1) := by decide +kernel
theorem d_X6_readSide_45 : decode prog_8_method_11_code 45 = .ok (.invokevirtual 75, 3) := by decide +kernel
theorem d_X6_readSide_48 : decode prog_8_method_11_code 48 = .ok (.goto 77, 3) := by decide +kernel
theorem d_X6_readSide_51 : decode prog_8_method_11_code 51 = .ok (.iload_n 2, 1) := by decide +kernel
theorem d_X6_readSide_52 : decode prog_8_method_11_code 52 = .ok (.iconst (-1), 1) := by decide +kernel
theorem d_X6_readSide_53 : decode prog_8_method_11_code 53 = .ok (.if_icmp .ne 11, 3) := by decide +kernel
theorem d_X6_readSide_56 : decode prog_8_method_11_code 56 = .ok (.aload_n 0, 1) := by decide +kernel
theorem d_X6_readSide_57 : decode prog_8_method_11_code 57 = .ok (.iconst 3, 1) := by decide +kernel
theorem d_X6_readSide_58 : decode prog_8_method_11_code 58 = .ok (.invokevirtual 101, 3) := by decide +kernel
theorem d_X6_readSide_61 : decode prog_8_method_11_code 61 = .ok (.goto 64, 3) := by decide +kernel
theorem d_X6_readSide_64 : decode prog_8_method_11_code 64 = .ok (.aload_n 0, 1) := by decide +kernel
theorem d_X6_readSide_65 : decode prog_8_method_11_code 65 = .ok (.getfield 25, 3) := by decide +kernel
theorem d_X6_readSide_68 : decode prog_8_method_11_code 68 = .ok (.getfield 85, 3) := by decide +kernel
theorem d_X6_readSide_71 : decode prog_8_method_11_code 71 = .ok (.istore_n 3, 1) := by decide +kernel
theorem d_X6_readSide_72 : decode prog_8_method_11_code 72 = .ok (.aload_n 0, 1) := by decide +kernel
theorem d_X6_readSide_73 : decode prog_8_method_11_code 73 = .ok (.getfield 18, 3) := by decide +kernel
theorem d_X6_readSide_76 : decode prog_8_method_11_code 76 = .ok (.iload_n 1, 1) := by decide +kernel
theorem d_X6_readSide_77 : decode prog_8_method_11_code 77 = .ok (.ifCond .ne 7, 3) := by decide +kernel
theorem d_X6_readSide_80 : decode prog_8_method_11_code 80 = .ok (.iconst 0, 1) := by decide +kernel
theorem d_X6_readSide_81 : decode prog_8_method_11_code 81 = .ok (.goto 4, 3) := by decide +kernel
theorem d_X6_readSide_84 : decode prog_8_method_11_code 84 = .ok (.iconst 1, 1) := by decide +kernel
theorem d_X6_readSide_85 : decode prog_8_method_11_code 85 = .ok (.iload_n 2, 1) := by decide +kernel
theorem d_X6_readSide_86 : decode prog_8_method_11_code 86 = .ok (.iastore, 1) := by decide +kernel
theorem d_X6_readSide_87 : decode prog_8_method_11_code 87 = .ok (.aload_n 0, 1) := by decide +kernel
theorem d_X6_readSide_88 : decode prog_8_method_11_code 88 = .ok (.getfield 25, 3) := by decide +kernel
theorem d_X6_readSide_91 : decode prog_8_method_11_code 91 = .ok (.invokevirtual 88, 3) := by decide +kernel
theorem d_X6_readSide_94 : decode prog_8_method_11_code 94 = .ok (.aload_n 0, 1) := by decide +kernel
theorem d_X6_readSide_95 : decode prog_8_method_11_code 95 = .ok (.getfield 25, 3) := by decide +kernel
theorem d_X6_readSide_98 : decode prog_8_method_11_code 98 = .ok (.getfield 53, 3) := by decide +kernel
theorem d_X6_readSide_101 : decode prog_8_method_11_code 101 = .ok (.bipush 40, 2) := by decide +kernel
theorem d_X6_readSide_103 : decode prog_8_method_11_code 103 = .ok (.if_icmp .ne 11, 3) := by decide +kernel
theorem d_X6_readSide_106 : decode prog_8_method_11_code 106 = .ok (.aload_n 0, 1) := by decide +kernel
theorem d_X6_readSide_107 : decode prog_8_method_11_code 107 = .ok (.iload_n 1, 1) := by decide +kernel
theorem d_X6_readSide_108 : decode prog_8_method_11_code 108 = .ok (.invokevirtual 149, 3) := by decide +kernel
theorem d_X6_readSide_111 : decode prog_8_method_11_code 111 = .ok (.goto 4, 3) := by decide +kernel
theorem d_X6_readSide_114 : decode prog_8_method_11_code 114 = .ok (.iconst 0, 1) := by decide +kernel
theorem d_X6_readSide_115 : decode prog_8_method_11_code 115 = .ok (.istore 4, 2) := by decide +kernel
theorem d_X6_readSide_117 : decode prog_8_method_11_code 117 = .ok (.aload_n 0, 1) := by decide +kernel
theorem d_X6_readSide_118 : decode prog_8_method_11_code 118 = .ok (.iload_n 2, 1) := by decide +kernel
theorem d_X6_readSide_119 : decode prog_8_method_11_code 119 = .ok (.iload 4, 2) := by decide +kernel
theorem d_X6_readSide_121 : decode prog_8_method_11_code 121 = .ok (.iload_n 3, 1) := by decide +kernel
theorem d_X6_readSide_122 : decode prog_8_method_11_code 122 = .ok (.invokevirtual 153, 3) := by decide +kernel
theorem d_X6_readSide_125 : decode prog_8_method_11_code 125 = .ok (.return_, 1) := by decide +kernel
theorem d_X9_addToken_0 : decode prog_11_method_7_code 0 = .ok (.aload_n 0, 1) := by decide +kernel
theorem d_X9_addToken_1 : decode prog_11_method_7_code 1 = .ok (.getfield 34, 3) := by decide +kernel
theorem d_X9_addToken_4 : decode prog_11_method_7_code 4 = .ok (.sipush 4000, 3) := by decide +kernel
theorem d_X9_addToken_7 : decode prog_11_method_7_code 7 = .ok (.if_icmp .gt 43, 3) := by decide +kernel
theorem d_X9_addToken_10 : decode prog_11_method_7_code 10 = .ok (.aload_n 0, 1) := by decide +kernel
theorem d_X9_addToken_11 : decode prog_11_method_7_code 11 = .ok (.getfield 15, 3) := by decide +kernel
theorem d_X9_addToken_14 : decode prog_11_method_7_code 14 = .ok (.aload_n 0, 1) := by decide +kernel
theorem d_X9_addToken_15 : decode prog_11_method_7_code 15 = .ok (.getfield 34, 3) := by decide +kernel
theorem d_X9_addToken_18 : decode prog_11_method_7_code 18 = .ok (.iload_n 1, 1) := by decide +kernel
theorem d_X9_addToken_19 : decode prog_11_method_7_code 19 = .ok (.iastore, 1) := by decide +kernel
theorem d_X9_addToken_20 : decode prog_11_method_7_code 20 = .ok (.aload_n 0, 1) := by decide +kernel
theorem d_X9_addToken_21 : decode prog_11_method_7_code 21 = .ok (.getfield 19, 3) := by decide +kernel
theorem d_X9_addToken_24 : decode prog_11_method_7_code 24 = .ok (.aload_n 0, 1) := by decide +kernel
theorem d_X9_addToken_25 : decode prog_11_method_7_code 25 = .ok (.getfield 34, 3) := by decide +kernel
theorem d_X9_addToken_28 : decode prog_11_method_7_code 28 = .ok (.iload_n 2, 1) := by decide +kernel
theorem d_X9_addToken_29 : decode prog_11_method_7_code 29 = .ok (.iastore, 1) := by decide +kernel
theorem d_X9_addToken_30 : decode prog_11_method_7_code 30 = .ok (.aload_n 0, 1) := by decide +kernel
theorem d_X9_addToken_31 : decode prog_11_method_7_code 31 = .ok (.getfield 22, 3) := by decide +kernel
theorem d_X9_addToken_34 : decode prog_11_method_7_code 34 = .ok (.aload_n 0, 1) := by decide +kernel
theorem d_X9_addToken_35 : decode prog_11_method_7_code 35 = .ok (.getfield 34, 3) := by decide +kernel
theorem d_X9_addToken_38 : decode prog_11_method_7_code 38 = .ok (.lload_n 3, 1) := by decide +kernel
theorem d_X9_addToken_39 : decode prog_11_method_7_code 39 = .ok (.lastore, 1) := by decide +kernel
theorem d_X9_addToken_40 : decode prog_11_method_7_code 40 = .ok (.aload_n 0, 1) := by decide +kernel
theorem d_X9_addToken_41 : decode prog_11_method_7_code 41 = .ok (.dup, 1) := by decide +kernel
theorem d_X9_addToken_42 : decode prog_11_method_7_code 42 = .ok (.getfield 34, 3) := by decide +kernel
theorem d_X9_addToken_45 : decode prog_11_method_7_code 45 = .ok (.iconst 1, 1) := by decide +kernel
theorem d_X9_addToken_46 : decode prog_11_method_7_code 46 = .ok (.iadd, 1) := by decide +kernel
theorem d_X9_addToken_47 : decode prog_11_method_7_code 47 = .ok (.putfield 34, 3) := by decide +kernel
theorem d_X9_addToken_50 : decode prog_11_method_7_code 50 = .ok (.return_, 1) := by decide +kernel
theorem d_X9_byteAt_0 : decode prog_11_method_4_code 0 = .ok (.iload_n 1, 1) := by decide +kernel
theorem d_X9_byteAt_1 : decode prog_11_method_4_code 1 = .ok (.aload_n 0, 1) := by decide +kernel
theorem d_X9_byteAt_2 : decode prog_11_method_4_code 2 = .ok (.getfield 26, 3) := by decide +kernel
theorem d_X9_byteAt_5 : decode prog_11_method_4_code 5 = .ok (.invokestatic 30, 3) := by decide +kernel
theorem d_X9_byteAt_8 : decode prog_11_method_4_code 8 = .ok (.ifCond .eq 23, 3) := by decide +kernel
theorem d_X9_byteAt_11 : decode prog_11_method_4_code 11 = .ok (.iload_n 1, 1) := by decide +kernel
theorem d_X9_byteAt_12 : decode prog_11_method_4_code 12 = .ok (.sipush 4000, 3) := by decide +kernel
theorem d_X9_byteAt_15 : decode prog_11_method_4_code 15 = .ok (.if_icmp .ge 16, 3) := by decide +kernel
theorem d_X9_byteAt_18 : decode prog_11_method_4_code 18 = .ok (.aload_n 0, 1) := by decide +kernel
theorem d_X9_byteAt_19 : decode prog_11_method_4_code 19 = .ok (.getfield 9, 3) := by decide +kernel
theorem d_X9_byteAt_22 : decode prog_11_method_4_code 22 = .ok (.iload_n 1, 1) := by decide +kernel
theorem d_X9_byteAt_23 : decode prog_11_method_4_code 23 = .ok (.baload, 1) := by decide +kernel
theorem d_X9_byteAt_24 : decode prog_11_method_4_code 24 = .ok (.sipush 255, 3) := by decide +kernel
theorem d_X9_byteAt_27 : decode prog_11_method_4_code 27 = .ok (.iand, 1) := by decide +kernel
theorem d_X9_byteAt_28 : decode prog_11_method_4_code 28 = .ok (.goto 4, 3) := by decide +kernel
theorem d_X9_byteAt_31 : decode prog_11_method_4_code 31 = .ok (.iconst (-1), 1) := by decide +kernel
theorem d_X9_byteAt_32 : decode prog_11_method_4_code 32 = .ok (.ireturn, 1) := by decide +kernel
theorem d_X9_isBig_0 : decode prog_11_method_9_code 0 = .ok (.iload_n 0, 1) := by decide +kernel
theorem d_X9_isBig_1 : decode prog_11_method_9_code 1 = .ok (.bipush 65, 2) := by decide +kernel
theorem d_X9_isBig_3 : decode prog_11_method_9_code 3 = .ok (.if_icmp .lt 13, 3) := by decide +kernel
theorem d_X9_isBig_6 : decode prog_11_method_9_code 6 = .ok (.iload_n 0, 1) := by decide +kernel
theorem d_X9_isBig_7 : decode prog_11_method_9_code 7 = .ok (.bipush 90, 2) := by decide +kernel
theorem d_X9_isBig_9 : decode prog_11_method_9_code 9 = .ok (.if_icmp .gt 7, 3) := by decide +kernel
theorem d_X9_isBig_12 : decode prog_11_method_9_code 12 = .ok (.iconst 1, 1) := by decide +kernel
theorem d_X9_isBig_13 : decode prog_11_method_9_code 13 = .ok (.goto 4, 3) := by decide +kernel
theorem d_X9_isBig_16 : decode prog_11_method_9_code 16 = .ok (.iconst 0, 1) := by decide +kernel
theorem d_X9_isBig_17 : decode prog_11_method_9_code 17 = .ok (.ireturn, 1) := by decide +kernel
theorem d_X9_isDigit_0 : decode prog_11_method_10_code 0 = .ok (.iload_n 0, 1) := by decide +kernel
theorem d_X9_isDigit_1 : decode prog_11_method_10_code 1 = .ok (.bipush 48, 2) := by decide +kernel
theorem d_X9_isDigit_3 : decode prog_11_method_10_code 3 = .ok (.if_icmp .lt 13, 3) := by decide +kernel
theorem d_X9_isDigit_6 : decode prog_11_method_10_code 6 = .ok (.iload_n 0, 1) := by decide +kernel
theorem d_X9_isDigit_7 : decode prog_11_method_10_code 7 = .ok (.bipush 57, 2) := by decide +kernel
theorem d_X9_isDigit_9 : decode prog_11_method_10_code 9 = .ok (.if_icmp .gt 7, 3) := by decide +kernel
theorem d_X9_isDigit_12 : decode prog_11_method_10_code 12 = .ok (.iconst 1, 1) := by decide +kernel
theorem d_X9_isDigit_13 : decode prog_11_method_10_code 13 = .ok (.goto 4, 3) := by decide +kernel
theorem d_X9_isDigit_16 : decode prog_11_method_10_code 16 = .ok (.iconst 0, 1) := by decide +kernel
theorem d_X9_isDigit_17 : decode prog_11_method_10_code 17 = .ok (.ireturn, 1) := by decide +kernel
theorem d_X9_isLetterOrDigit_0 : decode prog_11_method_11_code 0 = .ok (.iload_n 0, 1) := by decide +kernel
theorem d_X9_isLetterOrDigit_1 : decode prog_11_method_11_code 1 = .ok (.bipush 97, 2) := by decide +kernel
theorem d_X9_isLetterOrDigit_3 : decode prog_11_method_11_code 3 = .ok (.if_icmp .lt 9, 3) := by decide +kernel
theorem d_X9_isLetterOrDigit_6 : decode prog_11_method_11_code 6 = .ok (.iload_n 0, 1) := by decide +kernel
theorem d_X9_isLetterOrDigit_7 : decode prog_11_method_11_code 7 = .ok (.bipush 122, 2) := by decide +kernel
theorem d_X9_isLetterOrDigit_9 : decode prog_11_method_11_code 9 = .ok (.if_icmp .le 17, 3) := by decide +kernel
theorem d_X9_isLetterOrDigit_12 : decode prog_11_method_11_code 12 = .ok (.iload_n 0, 1) := by decide +kernel
theorem d_X9_isLetterOrDigit_13 : decode prog_11_method_11_code 13 = .ok (.invokestatic 90, 3) := by decide +kernel
theorem d_X9_isLetterOrDigit_16 : decode prog_11_method_11_code 16 = .ok (.ifCond .ne 10, 3) := by decide +kernel
theorem d_X9_isLetterOrDigit_19 : decode prog_11_method_11_code 19 = .ok (.iload_n 0, 1) := by decide +kernel
theorem d_X9_isLetterOrDigit_20 : decode prog_11_method_11_code 20 = .ok (.invokestatic 94, 3) := by decide +kernel
theorem d_X9_isLetterOrDigit_23 : decode prog_11_method_11_code 23 = .ok (.ifCond .eq 7, 3) := by decide +kernel
theorem d_X9_isLetterOrDigit_26 : decode prog_11_method_11_code 26 = .ok (.iconst 1, 1) := by decide +kernel
theorem d_X9_isLetterOrDigit_27 : decode prog_11_method_11_code 27 = .ok (.goto 4, 3) := by decide +kernel
theorem d_X9_isLetterOrDigit_30 : decode prog_11_method_11_code 30 = .ok (.iconst 0, 1) := by decide +kernel
theorem d_X9_isLetterOrDigit_31 : decode prog_11_method_11_code 31 = .ok (.ireturn, 1) := by decide +kernel
theorem d_X9_countRow_0 : decode prog_11_method_12_code 0 = .ok (.iconst 0, 1) := by decide +kernel
theorem d_X9_countRow_1 : decode prog_11_method_12_code 1 = .ok (.istore_n 2, 1) := by decide +kernel
theorem d_X9_countRow_2 : decode prog_11_method_12_code 2 = .ok (.iload_n 1, 1) := by decide +kernel
theorem d_X9_countRow_3 : decode prog_11_method_12_code 3 = .ok (.iload_n 2, 1) := by decide +kernel
theorem d_X9_countRow_4 : decode prog_11_method_12_code 4 = .ok (.iadd, 1) := by decide +kernel
theorem d_X9_countRow_5 : decode prog_11_method_12_code 5 = .ok (.aload_n 0, 1) := by decide +kernel
theorem d_X9_countRow_6 : decode prog_11_method_12_code 6 = .ok (.getfield 26, 3) := by decide +kernel
theorem d_X9_countRow_9 : decode prog_11_method_12_code 9 = .ok (.if_icmp .ge 22, 3) := by decide +kernel
theorem d_X9_countRow_12 : decode prog_11_method_12_code 12 = .ok (.aload_n 0, 1) := by decide +kernel
theorem d_X9_countRow_13 : decode prog_11_method_12_code 13 = .ok (.iload_n 1, 1) := by decide +kernel
theorem d_X9_countRow_14 : decode prog_11_method_12_code 14 = .ok (.iload_n 2, 1) := by decide +kernel
theorem d_X9_countRow_15 : decode prog_11_method_12_code 15 = .ok (.iadd, 1) := by decide +kernel
theorem d_X9_countRow_16 : decode prog_11_method_12_code 16 = .ok (.invokevirtual 57, 3) := by decide +kernel
theorem d_X9_countRow_19 : decode prog_11_method_12_code 19 = .ok (.invokestatic 97, 3) := by decide +kernel
theorem d_X9_countRow_22 : decode prog_11_method_12_code 22 = .ok (.ifCond .eq 9, 3) := by decide +kernel
theorem d_X9_countRow_25 : decode prog_11_method_12_code 25 = .ok (.iinc 2 1, 3) := by decide +kernel
theorem d_X9_countRow_28 : decode prog_11_method_12_code 28 = .ok (.goto (-26), 3) := by decide +kernel
theorem d_X9_countRow_31 : decode prog_11_method_12_code 31 = .ok (.iload_n 2, 1) := by decide +kernel
theorem d_X9_countRow_32 : decode prog_11_method_12_code 32 = .ok (.ireturn, 1) := by decide +kernel
theorem d_X9_kindOfRow_0 : decode prog_11_method_13_code 0 = .ok (.aload_n 0, 1) := by decide +kernel
theorem d_X9_kindOfRow_1 : decode prog_11_method_13_code 1 = .ok (.iload_n 1, 1) := by decide +kernel
theorem d_X9_kindOfRow_2 : decode prog_11_method_13_code 2 = .ok (.invokevirtual 57, 3) := by decide +kernel
theorem d_X9_kindOfRow_5 : decode prog_11_method_13_code 5 = .ok (.invokestatic 90, 3) := by decide +kernel
theorem d_X9_kindOfRow_8 : decode prog_11_method_13_code 8 = .ok (.istore_n 3, 1) := by decide +kernel
theorem d_X9_kindOfRow_9 : decode prog_11_method_13_code 9 = .ok (.iload_n 2, 1) := by decide +kernel
theorem d_X9_kindOfRow_10 : decode prog_11_method_13_code 10 = .ok (.bipush 8, 2) := by decide +kernel
theorem d_X9_kindOfRow_12 : decode prog_11_method_13_code 12 = .ok (.if_icmp .gt 14, 3) := by decide +kernel
theorem d_X9_kindOfRow_15 : decode prog_11_method_13_code 15 = .ok (.aload_n 0, 1) := by decide +kernel
theorem d_X9_kindOfRow_16 : decode prog_11_method_13_code 16 = .ok (.iload_n 1, 1) := by decide +kernel
theorem d_X9_kindOfRow_17 : decode prog_11_method_13_code 17 = .ok (.invokevirtual 57, 3) := by decide +kernel
theorem d_X9_kindOfRow_20 : decode prog_11_method_13_code 20 = .ok (.invokestatic 94, 3) := by decide +kernel
theorem d_X9_kindOfRow_23 : decode prog_11_method_13_code 23 = .ok (.ifCond .eq 5, 3) := by decide +kernel
theorem d_X9_kindOfRow_26 : decode prog_11_method_13_code 26 = .ok (.iconst 0, 1) := by decide +kernel
theorem d_X9_kindOfRow_27 : decode prog_11_method_13_code 27 = .ok (.ireturn, 1) := by decide +kernel
theorem d_X9_kindOfRow_28 : decode prog_11_method_13_code 28 = .ok (.iconst 1, 1) := by decide +kernel
theorem d_X9_kindOfRow_29 : decode prog_11_method_13_code 29 = .ok (.istore 4, 2) := by decide +kernel
theorem d_X9_kindOfRow_31 : decode prog_11_method_13_code 31 = .ok (.iload 4, 2) := by decide +kernel
theorem d_X9_kindOfRow_33 : decode prog_11_method_13_code 33 = .ok (.iload_n 2, 1) := by decide +kernel
theorem d_X9_kindOfRow_34 : decode prog_11_method_13_code 34 = .ok (.if_icmp .ge 29, 3) := by decide +kernel
theorem d_X9_kindOfRow_37 : decode prog_11_method_13_code 37 = .ok (.iload_n 3, 1) := by decide +kernel
theorem d_X9_kindOfRow_38 : decode prog_11_method_13_code 38 = .ok (.ifCond .ne 25, 3) := by decide +kernel
theorem d_X9_kindOfRow_41 : decode prog_11_method_13_code 41 = .ok (.aload_n 0, 1) := by decide +kernel
theorem d_X9_kindOfRow_42 : decode prog_11_method_13_code 42 = .ok (.iload_n 1, 1) := by decide +kernel
theorem d_X9_kindOfRow_43 : decode prog_11_method_13_code 43 = .ok (.iload 4, 2) := by decide +kernel
theorem d_X9_kindOfRow_45 : decode prog_11_method_13_code 45 = .ok (.iadd, 1) := by decide +kernel
theorem d_X9_kindOfRow_46 : decode prog_11_method_13_code 46 = .ok (.invokevirtual 57, 3) := by decide +kernel
theorem d_X9_kindOfRow_49 : decode prog_11_method_13_code 49 = .ok (.invokestatic 90, 3) := by decide +kernel
theorem d_X9_kindOfRow_52 : decode prog_11_method_13_code 52 = .ok (.ifCond .eq 5, 3) := by decide +kernel
theorem d_X9_kindOfRow_55 : decode prog_11_method_13_code 55 = .ok (.iconst 0, 1) := by decide +kernel
theorem d_X9_kindOfRow_56 : decode prog_11_method_13_code 56 = .ok (.ireturn, 1) := by decide +kernel
theorem d_X9_kindOfRow_57 : decode prog_11_method_13_code 57 = .ok (.iinc 4 1, 3) := by decide +kernel
theorem d_X9_kindOfRow_60 : decode prog_11_method_13_code 60 = .ok (.goto (-29), 3) := by decide +kernel
theorem d_X9_kindOfRow_63 : decode prog_11_method_13_code 63 = .ok (.iload_n 3, 1) := by decide +kernel
theorem d_X9_kindOfRow_64 : decode prog_11_method_13_code 64 = .ok (.ifCond .eq 7, 3) := by decide +kernel
theorem d_X9_kindOfRow_67 : decode prog_11_method_13_code 67 = .ok (.iconst 3, 1) := by decide +kernel
theorem d_X9_kindOfRow_68 : decode prog_11_method_13_code 68 = .ok (.goto 4, 3) := by decide +kernel
theorem d_X9_kindOfRow_71 : decode prog_11_method_13_code 71 = .ok (.iconst 2, 1) := by decide +kernel
theorem d_X9_kindOfRow_72 : decode prog_11_method_13_code 72 = .ok (.ireturn, 1) := by decide +kernel
theorem d_X9_packName_0 : decode prog_11_method_14_code 0 = .ok (.lconst 0, 1) := by decide +kernel
theorem d_X9_packName_1 : decode prog_11_method_14_code 1 = .ok (.lstore_n 3, 1) := by decide +kernel
theorem d_X9_packName_2 : decode prog_11_method_14_code 2 = .ok (.iconst 0, 1) := by decide +kernel
theorem d_X9_packName_3 : decode prog_11_method_14_code 3 = .ok (.istore 5, 2) := by decide +kernel
theorem d_X9_packName_5 : decode prog_11_method_14_code 5 = .ok (.iload 5, 2) := by decide +kernel
theorem d_X9_packName_7 : decode prog_11_method_14_code 7 = .ok (.iload_n 2, 1) := by decide +kernel
theorem d_X9_packName_8 : decode prog_11_method_14_code 8 = .ok (.if_icmp .ge 31, 3) := by decide +kernel
theorem d_X9_packName_11 : decode prog_11_method_14_code 11 = .ok (.iload 5, 2) := by decide +kernel
theorem d_X9_packName_13 : decode prog_11_method_14_code 13 = .ok (.bipush 8, 2) := by decide +kernel
theorem d_X9_packName_15 : decode prog_11_method_14_code 15 = .ok (.if_icmp .ge 24, 3) := by decide +kernel
theorem d_X9_packName_18 : decode prog_11_method_14_code 18 = .ok (.lload_n 3, 1) := by decide +kernel
theorem d_X9_packName_19 : decode prog_11_method_14_code 19 = .ok (.bipush 8, 2) := by decide +kernel
theorem d_X9_packName_21 : decode prog_11_method_14_code 21 = .ok (.lshl, 1) := by decide +kernel
theorem d_X9_packName_22 : decode prog_11_method_14_code 22 = .ok (.aload_n 0, 1) := by decide +kernel
theorem d_X9_packName_23 : decode prog_11_method_14_code 23 = .ok (.iload_n 1, 1) := by decide +kernel
theorem d_X9_packName_24 : decode prog_11_method_14_code 24 = .ok (.iload 5, 2) := by decide +kernel
theorem d_X9_packName_26 : decode prog_11_method_14_code 26 = .ok (.iadd, 1) := by decide +kernel
theorem d_X9_packName_27 : decode prog_11_method_14_code 27 = .ok (.invokevirtual 57, 3) := by decide +kernel
theorem d_X9_packName_30 : decode prog_11_method_14_code 30 = .ok (.i2l, 1) := by decide +kernel
theorem d_X9_packName_31 : decode prog_11_method_14_code 31 = .ok (.lor, 1) := by decide +kernel
theorem d_X9_packName_32 : decode prog_11_method_14_code 32 = .ok (.lstore_n 3, 1) := by decide +kernel
theorem d_X9_packName_33 : decode prog_11_method_14_code 33 = .ok (.iinc 5 1, 3) := by decide +kernel
theorem d_X9_packName_36 : decode prog_11_method_14_code 36 = .ok (.goto (-31), 3) := by decide +kernel
theorem d_X9_packName_39 : decode prog_11_method_14_code 39 = .ok (.lload_n 3, 1) := by decide +kernel
theorem d_X9_packName_40 : decode prog_11_method_14_code 40 = .ok (.lreturn, 1) := by decide +kernel
theorem d_X8_agentsIn_0 : decode prog_10_method_12_code 0 = .ok (.aload_n 0, 1) := by decide +kernel
theorem d_X8_agentsIn_1 : decode prog_10_method_12_code 1 = .ok (.iload_n 1, 1) := by decide +kernel
theorem d_X8_agentsIn_2 : decode prog_10_method_12_code 2 = .ok (.invokevirtual 51, 3) := by decide +kernel
theorem d_X8_agentsIn_5 : decode prog_10_method_12_code 5 = .ok (.ifCond .eq 12, 3) := by decide +kernel
theorem d_X8_agentsIn_8 : decode prog_10_method_12_code 8 = .ok (.aload_n 0, 1) := by decide +kernel
theorem d_X8_agentsIn_9 : decode prog_10_method_12_code 9 = .ok (.getfield 18, 3) := by decide +kernel
theorem d_X8_agentsIn_12 : decode prog_10_method_12_code 12 = .ok (.iload_n 1, 1) := by decide +kernel
theorem d_X8_agentsIn_13 : decode prog_10_method_12_code 13 = .ok (.iaload, 1) := by decide +kernel
theorem d_X8_agentsIn_14 : decode prog_10_method_12_code 14 = .ok (.goto 4, 3) := by decide +kernel
theorem d_X8_agentsIn_17 : decode prog_10_method_12_code 17 = .ok (.iconst 0, 1) := by decide +kernel
theorem d_X8_agentsIn_18 : decode prog_10_method_12_code 18 = .ok (.ireturn, 1) := by decide +kernel
theorem d_X11_rule_0 : decode prog_1_method_8_code 0 = .ok (.aload_n 0, 1) := by decide +kernel
theorem d_X11_rule_1 : decode prog_1_method_8_code 1 = .ok (.getfield 61, 3) := by decide +kernel
theorem d_X11_rule_4 : decode prog_1_method_8_code 4 = .ok (.getfield 108, 3) := by decide +kernel
theorem d_X11_rule_7 : decode prog_1_method_8_code 7 = .ok (.iload_n 1, 1) := by decide +kernel
theorem d_X11_rule_8 : decode prog_1_method_8_code 8 = .ok (.invokevirtual 150, 3) := by decide +kernel
theorem d_X11_rule_11 : decode prog_1_method_8_code 11 = .ok (.ifCond .eq 17, 3) := by decide +kernel
theorem d_X11_rule_14 : decode prog_1_method_8_code 14 = .ok (.aload_n 0, 1) := by decide +kernel
theorem d_X11_rule_15 : decode prog_1_method_8_code 15 = .ok (.getfield 61, 3) := by decide +kernel
theorem d_X11_rule_18 : decode prog_1_method_8_code 18 = .ok (.getfield 108, 3) := by decide +kernel
theorem d_X11_rule_21 : decode prog_1_method_8_code 21 = .ok (.iload_n 2, 1) := by decide +kernel
theorem d_X11_rule_22 : decode prog_1_method_8_code 22 = .ok (.invokevirtual 150, 3) := by decide +kernel
theorem d_X11_rule_25 : decode prog_1_method_8_code 25 = .ok (.ifCond .ne 7, 3) := by decide +kernel
theorem d_X11_rule_28 : decode prog_1_method_8_code 28 = .ok (.sipush (-1001), 3) := by decide +kernel
theorem d_X11_rule_31 : decode prog_1_method_8_code 31 = .ok (.ireturn, 1) := by decide +kernel
theorem d_X11_rule_32 : decode prog_1_method_8_code 32 = .ok (.aload_n 0, 1) := by decide +kernel
theorem d_X11_rule_33 : decode prog_1_method_8_code 33 = .ok (.getfield 61, 3) := by decide +kernel
theorem d_X11_rule_36 : decode prog_1_method_8_code 36 = .ok (.getfield 115, 3) := by decide +kernel
theorem d_X11_rule_39 : decode prog_1_method_8_code 39 = .ok (.iload_n 1, 1) := by decide +kernel
theorem d_X11_rule_40 : decode prog_1_method_8_code 40 = .ok (.iload_n 2, 1) := by decide +kernel
theorem d_X11_rule_41 : decode prog_1_method_8_code 41 = .ok (.invokevirtual 168, 3) := by decide +kernel
theorem d_X11_rule_44 : decode prog_1_method_8_code 44 = .ok (.istore_n 3, 1) := by decide +kernel
theorem d_X11_rule_45 : decode prog_1_method_8_code 45 = .ok (.iload_n 3, 1) := by decide +kernel
theorem d_X11_rule_46 : decode prog_1_method_8_code 46 = .ok (.iconst (-1), 1) := by decide +kernel
theorem d_X11_rule_47 : decode prog_1_method_8_code 47 = .ok (.if_icmp .ne 7, 3) := by decide +kernel
theorem d_X11_rule_50 : decode prog_1_method_8_code 50 = .ok (.iconst (-1), 1) := by decide +kernel
theorem d_X11_rule_51 : decode prog_1_method_8_code 51 = .ok (.goto 14, 3) := by decide +kernel
theorem d_X11_rule_54 : decode prog_1_method_8_code 54 = .ok (.aload_n 0, 1) := by decide +kernel
theorem d_X11_rule_55 : decode prog_1_method_8_code 55 = .ok (.getfield 61, 3) := by decide +kernel
theorem d_X11_rule_58 : decode prog_1_method_8_code 58 = .ok (.getfield 115, 3) := by decide +kernel
theorem d_X11_rule_61 : decode prog_1_method_8_code 61 = .ok (.iload_n 3, 1) := by decide +kernel
theorem d_X11_rule_62 : decode prog_1_method_8_code 62 = .ok (.invokevirtual 171, 3) := by decide +kernel
theorem d_X11_rule_65 : decode prog_1_method_8_code 65 = .ok (.ireturn, 1) := by decide +kernel
theorem d_X2_noteAgents_0 : decode prog_4_method_4_code 0 = .ok (.aload_n 0, 1) := by decide +kernel
theorem d_X2_noteAgents_1 : decode prog_4_method_4_code 1 = .ok (.aload_n 0, 1) := by decide +kernel
theorem d_X2_noteAgents_2 : decode prog_4_method_4_code 2 = .ok (.getfield 19, 3) := by decide +kernel
theorem d_X2_noteAgents_5 : decode prog_4_method_4_code 5 = .ok (.iload_n 1, 1) := by decide +kernel
theorem d_X2_noteAgents_6 : decode prog_4_method_4_code 6 = .ok (.invokestatic 31, 3) := by decide +kernel
theorem d_X2_noteAgents_9 : decode prog_4_method_4_code 9 = .ok (.putfield 19, 3) := by decide +kernel
theorem d_X2_noteAgents_12 : decode prog_4_method_4_code 12 = .ok (.return_, 1) := by decide +kernel
theorem d_X2_noteStep_0 : decode prog_4_method_3_code 0 = .ok (.aload_n 0, 1) := by decide +kernel
theorem d_X2_noteStep_1 : decode prog_4_method_3_code 1 = .ok (.getfield 11, 3) := by decide +kernel
theorem d_X2_noteStep_4 : decode prog_4_method_3_code 4 = .ok (.aload_n 0, 1) := by decide +kernel
theorem d_X2_noteStep_5 : decode prog_4_method_3_code 5 = .ok (.getfield 15, 3) := by decide +kernel
theorem d_X2_noteStep_8 : decode prog_4_method_3_code 8 = .ok (.bipush 50, 2) := by decide +kernel
theorem d_X2_noteStep_10 : decode prog_4_method_3_code 10 = .ok (.invokestatic 25, 3) := by decide +kernel
theorem d_X2_noteStep_13 : decode prog_4_method_3_code 13 = .ok (.bipush 16, 2) := by decide +kernel
theorem d_X2_noteStep_15 : decode prog_4_method_3_code 15 = .ok (.iload_n 1, 1) := by decide +kernel
theorem d_X2_noteStep_16 : decode prog_4_method_3_code 16 = .ok (.imul, 1) := by decide +kernel
theorem d_X2_noteStep_17 : decode prog_4_method_3_code 17 = .ok (.iload_n 2, 1) := by decide +kernel
theorem d_X2_noteStep_18 : decode prog_4_method_3_code 18 = .ok (.iadd, 1) := by decide +kernel
theorem d_X2_noteStep_19 : decode prog_4_method_3_code 19 = .ok (.iastore, 1) := by decide +kernel
theorem d_X2_noteStep_20 : decode prog_4_method_3_code 20 = .ok (.aload_n 0, 1) := by decide +kernel
theorem d_X2_noteStep_21 : decode prog_4_method_3_code 21 = .ok (.dup, 1) := by decide +kernel
theorem d_X2_noteStep_22 : decode prog_4_method_3_code 22 = .ok (.getfield 15, 3) := by decide +kernel
theorem d_X2_noteStep_25 : decode prog_4_method_3_code 25 = .ok (.iconst 1, 1) := by decide +kernel
theorem d_X2_noteStep_26 : decode prog_4_method_3_code 26 = .ok (.iadd, 1) := by decide +kernel
theorem d_X2_noteStep_27 : decode prog_4_method_3_code 27 = .ok (.putfield 15, 3) := by decide +kernel
theorem d_X2_noteStep_30 : decode prog_4_method_3_code 30 = .ok (.return_, 1) := by decide +kernel
theorem d_X4_remove_0 : decode prog_6_method_9_code 0 = .ok (.aload_n 0, 1) := by decide +kernel
theorem d_X4_remove_1 : decode prog_6_method_9_code 1 = .ok (.iload_n 1, 1) := by decide +kernel
theorem d_X4_remove_2 : decode prog_6_method_9_code 2 = .ok (.invokevirtual 56, 3) := by decide +kernel
theorem d_X4_remove_5 : decode prog_6_method_9_code 5 = .ok (.ifCond .eq 20, 3) := by decide +kernel
theorem d_X4_remove_8 : decode prog_6_method_9_code 8 = .ok (.aload_n 0, 1) := by decide +kernel
theorem d_X4_remove_9 : decode prog_6_method_9_code 9 = .ok (.getfield 9, 3) := by decide +kernel
theorem d_X4_remove_12 : decode prog_6_method_9_code 12 = .ok (.iload_n 1, 1) := by decide +kernel
theorem d_X4_remove_13 : decode prog_6_method_9_code 13 = .ok (.iconst (-1), 1) := by decide +kernel
theorem d_X4_remove_14 : decode prog_6_method_9_code 14 = .ok (.iastore, 1) := by decide +kernel
theorem d_X4_remove_15 : decode prog_6_method_9_code 15 = .ok (.aload_n 0, 1) := by decide +kernel
theorem d_X4_remove_16 : decode prog_6_method_9_code 16 = .ok (.dup, 1) := by decide +kernel
theorem d_X4_remove_17 : decode prog_6_method_9_code 17 = .ok (.getfield 27, 3) := by decide +kernel
theorem d_X4_remove_20 : decode prog_6_method_9_code 20 = .ok (.iconst 1, 1) := by decide +kernel
theorem d_X4_remove_21 : decode prog_6_method_9_code 21 = .ok (.isub, 1) := by decide +kernel
theorem d_X4_remove_22 : decode prog_6_method_9_code 22 = .ok (.putfield 27, 3) := by decide +kernel
theorem d_X4_remove_25 : decode prog_6_method_9_code 25 = .ok (.aload_n 0, 1) := by decide +kernel
theorem d_X4_remove_26 : decode prog_6_method_9_code 26 = .ok (.getfield 37, 3) := by decide +kernel
theorem d_X4_remove_29 : decode prog_6_method_9_code 29 = .ok (.sipush 400, 3) := by decide +kernel
theorem d_X4_remove_32 : decode prog_6_method_9_code 32 = .ok (.invokestatic 60, 3) := by decide +kernel
theorem d_X4_remove_35 : decode prog_6_method_9_code 35 = .ok (.istore_n 2, 1) := by decide +kernel
theorem d_X4_remove_36 : decode prog_6_method_9_code 36 = .ok (.iload_n 2, 1) := by decide +kernel
theorem d_X4_remove_37 : decode prog_6_method_9_code 37 = .ok (.ifCond .le 28, 3) := by decide +kernel
theorem d_X4_remove_40 : decode prog_6_method_9_code 40 = .ok (.aload_n 0, 1) := by decide +kernel
theorem d_X4_remove_41 : decode prog_6_method_9_code 41 = .ok (.getfield 9, 3) := by decide +kernel
theorem d_X4_remove_44 : decode prog_6_method_9_code 44 = .ok (.iload_n 2, 1) := by decide +kernel
theorem d_X4_remove_45 : decode prog_6_method_9_code 45 = .ok (.iconst 1, 1) := by decide +kernel
theorem d_X4_remove_46 : decode prog_6_method_9_code 46 = .ok (.isub, 1) := by decide +kernel
theorem d_X4_remove_47 : decode prog_6_method_9_code 47 = .ok (.iaload, 1) := by decide +kernel
theorem d_X4_remove_48 : decode prog_6_method_9_code 48 = .ok (.iconst (-1), 1) := by decide +kernel
theorem d_X4_remove_49 : decode prog_6_method_9_code 49 = .ok (.if_icmp .ne 16, 3) := by decide +kernel
theorem d_X4_remove_52 : decode prog_6_method_9_code 52 = .ok (.aload_n 0, 1) := by decide +kernel
theorem d_X4_remove_53 : decode prog_6_method_9_code 53 = .ok (.iload_n 2, 1) := by decide +kernel
theorem d_X4_remove_54 : decode prog_6_method_9_code 54 = .ok (.iconst 1, 1) := by decide +kernel
theorem d_X4_remove_55 : decode prog_6_method_9_code 55 = .ok (.isub, 1) := by decide +kernel
theorem d_X4_remove_56 : decode prog_6_method_9_code 56 = .ok (.putfield 37, 3) := by decide +kernel
theorem d_X4_remove_59 : decode prog_6_method_9_code 59 = .ok (.iinc 2 (-1), 3) := by decide +kernel
theorem d_X4_remove_62 : decode prog_6_method_9_code 62 = .ok (.goto (-26), 3) := by decide +kernel
theorem d_X4_remove_65 : decode prog_6_method_9_code 65 = .ok (.return_, 1) := by decide +kernel
theorem d_X7_codeInNet_0 : decode prog_9_method_12_code 0 = .ok (.iload_n 1, 1) := by decide +kernel
theorem d_X7_codeInNet_1 : decode prog_9_method_12_code 1 = .ok (.invokestatic 110, 3) := by decide +kernel
theorem d_X7_codeInNet_4 : decode prog_9_method_12_code 4 = .ok (.istore_n 2, 1) := by decide +kernel
theorem d_X7_codeInNet_5 : decode prog_9_method_12_code 5 = .ok (.iload_n 2, 1) := by decide +kernel
theorem d_X7_codeInNet_6 : decode prog_9_method_12_code 6 = .ok (.ifCond .lt 25, 3) := by decide +kernel
theorem d_X7_codeInNet_9 : decode prog_9_method_12_code 9 = .ok (.iload_n 2, 1) := by decide +kernel
theorem d_X7_codeInNet_10 : decode prog_9_method_12_code 10 = .ok (.bipush 12, 2) := by decide +kernel
theorem d_X7_codeInNet_12 : decode prog_9_method_12_code 12 = .ok (.if_icmp .ge 19, 3) := by decide +kernel
theorem d_X7_codeInNet_15 : decode prog_9_method_12_code 15 = .ok (.aload_n 0, 1) := by decide +kernel
theorem d_X7_codeInNet_16 : decode prog_9_method_12_code 16 = .ok (.getfield 22, 3) := by decide +kernel
theorem d_X7_codeInNet_19 : decode prog_9_method_12_code 19 = .ok (.iload_n 2, 1) := by decide +kernel
theorem d_X7_codeInNet_20 : decode prog_9_method_12_code 20 = .ok (.iaload, 1) := by decide +kernel
theorem d_X7_codeInNet_21 : decode prog_9_method_12_code 21 = .ok (.iload_n 1, 1) := by decide +kernel
theorem d_X7_codeInNet_22 : decode prog_9_method_12_code 22 = .ok (.invokestatic 107, 3) := by decide +kernel
theorem d_X7_codeInNet_25 : decode prog_9_method_12_code 25 = .ok (.invokestatic 93, 3) := by decide +kernel
theorem d_X7_codeInNet_28 : decode prog_9_method_12_code 28 = .ok (.goto 4, 3) := by decide +kernel
theorem d_X7_codeInNet_31 : decode prog_9_method_12_code 31 = .ok (.iconst (-1), 1) := by decide +kernel
theorem d_X7_codeInNet_32 : decode prog_9_method_12_code 32 = .ok (.ireturn, 1) := by decide +kernel
theorem d_X7_pass_0 : decode prog_9_method_11_code 0 = .ok (.iload_n 1, 1) := by decide +kernel
theorem d_X7_pass_1 : decode prog_9_method_11_code 1 = .ok (.invokestatic 141, 3) := by decide +kernel
theorem d_X7_pass_4 : decode prog_9_method_11_code 4 = .ok (.istore_n 2, 1) := by decide +kernel
theorem d_X7_pass_5 : decode prog_9_method_11_code 5 = .ok (.iload_n 2, 1) := by decide +kernel
theorem d_X7_pass_6 : decode prog_9_method_11_code 6 = .ok (.ifCond .lt 16, 3) := by decide +kernel
theorem d_X7_pass_9 : decode prog_9_method_11_code 9 = .ok (.iload_n 2, 1) := by decide +kernel
theorem d_X7_pass_10 : decode prog_9_method_11_code 10 = .ok (.bipush 8, 2) := by decide +kernel
theorem d_X7_pass_12 : decode prog_9_method_11_code 12 = .ok (.if_icmp .ge 10, 3) := by decide +kernel
theorem d_X7_pass_15 : decode prog_9_method_11_code 15 = .ok (.aload_n 0, 1) := by decide +kernel
theorem d_X7_pass_16 : decode prog_9_method_11_code 16 = .ok (.getfield 18, 3) := by decide +kernel
theorem d_X7_pass_19 : decode prog_9_method_11_code 19 = .ok (.iload_n 2, 1) := by decide +kernel
theorem d_X7_pass_20 : decode prog_9_method_11_code 20 = .ok (.iconst 1, 1) := by decide +kernel
theorem d_X7_pass_21 : decode prog_9_method_11_code 21 = .ok (.bastore, 1) := by decide +kernel
theorem d_X7_pass_22 : decode prog_9_method_11_code 22 = .ok (.return_, 1) := by decide +kernel
theorem d_X8_wireOf_0 : decode prog_10_method_10_code 0 = .ok (.aload_n 0, 1) := by decide +kernel
theorem d_X8_wireOf_1 : decode prog_10_method_10_code 1 = .ok (.iload_n 1, 1) := by decide +kernel
theorem d_X8_wireOf_2 : decode prog_10_method_10_code 2 = .ok (.invokevirtual 51, 3) := by decide +kernel
theorem d_X8_wireOf_5 : decode prog_10_method_10_code 5 = .ok (.ifCond .eq 24, 3) := by decide +kernel
theorem d_X8_wireOf_8 : decode prog_10_method_10_code 8 = .ok (.iload_n 2, 1) := by decide +kernel
theorem d_X8_wireOf_9 : decode prog_10_method_10_code 9 = .ok (.bipush 96, 2) := by decide +kernel
theorem d_X8_wireOf_11 : decode prog_10_method_10_code 11 = .ok (.invokestatic 43, 3) := by decide +kernel
theorem d_X8_wireOf_14 : decode prog_10_method_10_code 14 = .ok (.ifCond .eq 15, 3) := by decide +kernel
theorem d_X8_wireOf_17 : decode prog_10_method_10_code 17 = .ok (.aload_n 0, 1) := by decide +kernel
theorem d_X8_wireOf_18 : decode prog_10_method_10_code 18 = .ok (.getfield 27, 3) := by decide +kernel
theorem d_X8_wireOf_21 : decode prog_10_method_10_code 21 = .ok (.iload_n 1, 1) := by decide +kernel
theorem d_X8_wireOf_22 : decode prog_10_method_10_code 22 = .ok (.bipush 96, 2) := by decide +kernel
theorem d_X8_wireOf_24 : decode prog_10_method_10_code 24 = .ok (.imul, 1) := by decide +kernel
theorem d_X8_wireOf_25 : decode prog_10_method_10_code 25 = .ok (.iload_n 2, 1) := by decide +kernel
theorem d_X8_wireOf_26 : decode prog_10_method_10_code 26 = .ok (.iadd, 1) := by decide +kernel
theorem d_X8_wireOf_27 : decode prog_10_method_10_code 27 = .ok (.iaload, 1) := by decide +kernel
theorem d_X8_wireOf_28 : decode prog_10_method_10_code 28 = .ok (.ireturn, 1) := by decide +kernel
theorem d_X8_wireOf_29 : decode prog_10_method_10_code 29 = .ok (.aload_n 0, 1) := by decide +kernel
theorem d_X8_wireOf_30 : decode prog_10_method_10_code 30 = .ok (.iload_n 1, 1) := by decide +kernel
theorem d_X8_wireOf_31 : decode prog_10_method_10_code 31 = .ok (.invokevirtual 51, 3) := by decide +kernel
theorem d_X8_wireOf_34 : decode prog_10_method_10_code 34 = .ok (.ifCond .eq 32, 3) := by decide +kernel
theorem d_X8_wireOf_37 : decode prog_10_method_10_code 37 = .ok (.iload_n 2, 1) := by decide +kernel
theorem d_X8_wireOf_38 : decode prog_10_method_10_code 38 = .ok (.invokestatic 55, 3) := by decide +kernel
theorem d_X8_wireOf_41 : decode prog_10_method_10_code 41 = .ok (.bipush 8, 2) := by decide +kernel
theorem d_X8_wireOf_43 : decode prog_10_method_10_code 43 = .ok (.invokestatic 43, 3) := by decide +kernel
theorem d_X8_wireOf_46 : decode prog_10_method_10_code 46 = .ok (.ifCond .eq 20, 3) := by decide +kernel
theorem d_X8_wireOf_49 : decode prog_10_method_10_code 49 = .ok (.aload_n 0, 1) := by decide +kernel
theorem d_X8_wireOf_50 : decode prog_10_method_10_code 50 = .ok (.getfield 30, 3) := by decide +kernel
theorem d_X8_wireOf_53 : decode prog_10_method_10_code 53 = .ok (.iload_n 1, 1) := by decide +kernel
theorem d_X8_wireOf_54 : decode prog_10_method_10_code 54 = .ok (.bipush 8, 2) := by decide +kernel
theorem d_X8_wireOf_56 : decode prog_10_method_10_code 56 = .ok (.imul, 1) := by decide +kernel
theorem d_X8_wireOf_57 : decode prog_10_method_10_code 57 = .ok (.iload_n 2, 1) := by decide +kernel
theorem d_X8_wireOf_58 : decode prog_10_method_10_code 58 = .ok (.invokestatic 55, 3) := by decide +kernel
theorem d_X8_wireOf_61 : decode prog_10_method_10_code 61 = .ok (.iadd, 1) := by decide +kernel
