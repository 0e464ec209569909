theorem d_J0_coder_7d493_0 : decode prog_17_method_152_code 0 = .ok (.getstatic 38, 3) := by decide +kernel
theorem d_J0_coder_7d493_3 : decode prog_17_method_152_code 3 = .ok (.ifCond .eq 10, 3) := by decide +kernel
theorem d_J0_coder_7d493_6 : decode prog_17_method_152_code 6 = .ok (.aload_n 0, 1) := by decide +kernel
theorem d_J0_coder_7d493_7 : decode prog_17_method_152_code 7 = .ok (.getfield 15, 3) := by decide +kernel
theorem d_J0_coder_7d493_10 : decode prog_17_method_152_code 10 = .ok (.goto 4, 3) := by decide +kernel
theorem d_J0_coder_7d493_13 : decode prog_17_method_152_code 13 = .ok (.iconst 1, 1) := by decide +kernel
theorem d_J0_coder_7d493_14 : decode prog_17_method_152_code 14 = .ok (.ireturn, 1) := by decide +kernel
theorem d_J0_isLatin1_aae02_0 : decode prog_17_method_154_code 0 = .ok (.getstatic 38, 3) := by decide +kernel
theorem d_J0_isLatin1_aae02_3 : decode prog_17_method_154_code 3 = .ok (.ifCond .eq 14, 3) := by decide +kernel
theorem d_J0_isLatin1_aae02_6 : decode prog_17_method_154_code 6 = .ok (.aload_n 0, 1) := by decide +kernel
theorem d_J0_isLatin1_aae02_7 : decode prog_17_method_154_code 7 = .ok (.getfield 15, 3) := by decide +kernel
theorem d_J0_isLatin1_aae02_10 : decode prog_17_method_154_code 10 = .ok (.ifCond .ne 7, 3) := by decide +kernel
theorem d_J0_isLatin1_aae02_13 : decode prog_17_method_154_code 13 = .ok (.iconst 1, 1) := by decide +kernel
theorem d_J0_isLatin1_aae02_14 : decode prog_17_method_154_code 14 = .ok (.goto 4, 3) := by decide +kernel
theorem d_J0_isLatin1_aae02_17 : decode prog_17_method_154_code 17 = .ok (.iconst 0, 1) := by decide +kernel
theorem d_J0_isLatin1_aae02_18 : decode prog_17_method_154_code 18 = .ok (.ireturn, 1) := by decide +kernel
theorem d_J0_length_8abf5_0 : decode prog_17_method_54_code 0 = .ok (.aload_n 0, 1) := by decide +kernel
theorem d_J0_length_8abf5_1 : decode prog_17_method_54_code 1 = .ok (.getfield 9, 3) := by decide +kernel
theorem d_J0_length_8abf5_4 : decode prog_17_method_54_code 4 = .ok (.arraylength, 1) := by decide +kernel
theorem d_J0_length_8abf5_5 : decode prog_17_method_54_code 5 = .ok (.aload_n 0, 1) := by decide +kernel
theorem d_J0_length_8abf5_6 : decode prog_17_method_54_code 6 = .ok (.invokevirtual 335, 3) := by decide +kernel
theorem d_J0_length_8abf5_9 : decode prog_17_method_54_code 9 = .ok (.ishr, 1) := by decide +kernel
theorem d_J0_length_8abf5_10 : decode prog_17_method_54_code 10 = .ok (.ireturn, 1) := by decide +kernel
theorem d_J1_canEncode_9a6ad_0 : decode prog_18_method_4_code 0 = .ok (.iload_n 0, 1) := by decide +kernel
theorem d_J1_canEncode_9a6ad_1 : decode prog_18_method_4_code 1 = .ok (.ifCond .lt 14, 3) := by decide +kernel
theorem d_J1_canEncode_9a6ad_4 : decode prog_18_method_4_code 4 = .ok (.iload_n 0, 1) := by decide +kernel
theorem d_J1_canEncode_9a6ad_5 : decode prog_18_method_4_code 5 = .ok (.sipush 255, 3) := by decide +kernel
theorem d_J1_canEncode_9a6ad_8 : decode prog_18_method_4_code 8 = .ok (.if_icmp .gt 7, 3) := by decide +kernel
theorem d_J1_canEncode_9a6ad_11 : decode prog_18_method_4_code 11 = .ok (.iconst 1, 1) := by decide +kernel
theorem d_J1_canEncode_9a6ad_12 : decode prog_18_method_4_code 12 = .ok (.goto 4, 3) := by decide +kernel
theorem d_J1_canEncode_9a6ad_15 : decode prog_18_method_4_code 15 = .ok (.iconst 0, 1) := by decide +kernel
theorem d_J1_canEncode_9a6ad_16 : decode prog_18_method_4_code 16 = .ok (.ireturn, 1) := by decide +kernel
theorem d_J1_indexOfChar_4cfef_0 : decode prog_18_method_23_code 0 = .ok (.iload_n 1, 1) := by decide +kernel
theorem d_J1_indexOfChar_4cfef_1 : decode prog_18_method_23_code 1 = .ok (.i2b, 1) := by decide +kernel
theorem d_J1_indexOfChar_4cfef_2 : decode prog_18_method_23_code 2 = .ok (.istore 4, 2) := by decide +kernel
theorem d_J1_indexOfChar_4cfef_4 : decode prog_18_method_23_code 4 = .ok (.iload_n 2, 1) := by decide +kernel
theorem d_J1_indexOfChar_4cfef_5 : decode prog_18_method_23_code 5 = .ok (.istore 5, 2) := by decide +kernel
theorem d_J1_indexOfChar_4cfef_7 : decode prog_18_method_23_code 7 = .ok (.iload 5, 2) := by decide +kernel
theorem d_J1_indexOfChar_4cfef_9 : decode prog_18_method_23_code 9 = .ok (.iload_n 3, 1) := by decide +kernel
theorem d_J1_indexOfChar_4cfef_10 : decode prog_18_method_23_code 10 = .ok (.if_icmp .ge 21, 3) := by decide +kernel
theorem d_J1_indexOfChar_4cfef_13 : decode prog_18_method_23_code 13 = .ok (.aload_n 0, 1) := by decide +kernel
theorem d_J1_indexOfChar_4cfef_14 : decode prog_18_method_23_code 14 = .ok (.iload 5, 2) := by decide +kernel
theorem d_J1_indexOfChar_4cfef_16 : decode prog_18_method_23_code 16 = .ok (.baload, 1) := by decide +kernel
theorem d_J1_indexOfChar_4cfef_17 : decode prog_18_method_23_code 17 = .ok (.iload 4, 2) := by decide +kernel
theorem d_J1_indexOfChar_4cfef_19 : decode prog_18_method_23_code 19 = .ok (.if_icmp .ne 6, 3) := by decide +kernel
theorem d_J1_indexOfChar_4cfef_22 : decode prog_18_method_23_code 22 = .ok (.iload 5, 2) := by decide +kernel
theorem d_J1_indexOfChar_4cfef_24 : decode prog_18_method_23_code 24 = .ok (.ireturn, 1) := by decide +kernel
theorem d_J1_indexOfChar_4cfef_25 : decode prog_18_method_23_code 25 = .ok (.iinc 5 1, 3) := by decide +kernel
theorem d_J1_indexOfChar_4cfef_28 : decode prog_18_method_23_code 28 = .ok (.goto (-21), 3) := by decide +kernel
theorem d_J1_indexOfChar_4cfef_31 : decode prog_18_method_23_code 31 = .ok (.iconst (-1), 1) := by decide +kernel
theorem d_J1_indexOfChar_4cfef_32 : decode prog_18_method_23_code 32 = .ok (.ireturn, 1) := by decide +kernel
theorem d_J9_max_7cf53_0 : decode prog_16_method_65_code 0 = .ok (.iload_n 0, 1) := by decide +kernel
theorem d_J9_max_7cf53_1 : decode prog_16_method_65_code 1 = .ok (.iload_n 1, 1) := by decide +kernel
theorem d_J9_max_7cf53_2 : decode prog_16_method_65_code 2 = .ok (.if_icmp .lt 7, 3) := by decide +kernel
theorem d_J9_max_7cf53_5 : decode prog_16_method_65_code 5 = .ok (.iload_n 0, 1) := by decide +kernel
theorem d_J9_max_7cf53_6 : decode prog_16_method_65_code 6 = .ok (.goto 4, 3) := by decide +kernel
theorem d_J9_max_7cf53_9 : decode prog_16_method_65_code 9 = .ok (.iload_n 1, 1) := by decide +kernel
theorem d_J9_max_7cf53_10 : decode prog_16_method_65_code 10 = .ok (.ireturn, 1) := by decide +kernel
theorem d_J9_min_7cf53_0 : decode prog_16_method_69_code 0 = .ok (.iload_n 0, 1) := by decide +kernel
theorem d_J9_min_7cf53_1 : decode prog_16_method_69_code 1 = .ok (.iload_n 1, 1) := by decide +kernel
theorem d_J9_min_7cf53_2 : decode prog_16_method_69_code 2 = .ok (.if_icmp .gt 7, 3) := by decide +kernel
theorem d_J9_min_7cf53_5 : decode prog_16_method_69_code 5 = .ok (.iload_n 0, 1) := by decide +kernel
theorem d_J9_min_7cf53_6 : decode prog_16_method_69_code 6 = .ok (.goto 4, 3) := by decide +kernel
theorem d_J9_min_7cf53_9 : decode prog_16_method_69_code 9 = .ok (.iload_n 1, 1) := by decide +kernel
theorem d_J9_min_7cf53_10 : decode prog_16_method_69_code 10 = .ok (.ireturn, 1) := by decide +kernel
theorem d_J1_indexOf_4cfef_0 : decode prog_18_method_22_code 0 = .ok (.iload_n 1, 1) := by decide +kernel
theorem d_J1_indexOf_4cfef_1 : decode prog_18_method_22_code 1 = .ok (.invokestatic 88, 3) := by decide +kernel
theorem d_J1_indexOf_4cfef_4 : decode prog_18_method_22_code 4 = .ok (.ifCond .ne 5, 3) := by decide +kernel
theorem d_J1_indexOf_4cfef_7 : decode prog_18_method_22_code 7 = .ok (.iconst (-1), 1) := by decide +kernel
theorem d_J1_indexOf_4cfef_8 : decode prog_18_method_22_code 8 = .ok (.ireturn, 1) := by decide +kernel
theorem d_J1_indexOf_4cfef_9 : decode prog_18_method_22_code 9 = .ok (.iload_n 2, 1) := by decide +kernel
theorem d_J1_indexOf_4cfef_10 : decode prog_18_method_22_code 10 = .ok (.iconst 0, 1) := by decide +kernel
theorem d_J1_indexOf_4cfef_11 : decode prog_18_method_22_code 11 = .ok (.invokestatic 92, 3) := by decide +kernel
theorem d_J1_indexOf_4cfef_14 : decode prog_18_method_22_code 14 = .ok (.istore_n 2, 1) := by decide +kernel
theorem d_J1_indexOf_4cfef_15 : decode prog_18_method_22_code 15 = .ok (.iload_n 3, 1) := by decide +kernel
theorem d_J1_indexOf_4cfef_16 : decode prog_18_method_22_code 16 = .ok (.aload_n 0, 1) := by decide +kernel
theorem d_J1_indexOf_4cfef_17 : decode prog_18_method_22_code 17 = .ok (.arraylength, 1) := by decide +kernel
theorem d_J1_indexOf_4cfef_18 : decode prog_18_method_22_code 18 = .ok (.invokestatic 38, 3) := by decide +kernel
theorem d_J1_indexOf_4cfef_21 : decode prog_18_method_22_code 21 = .ok (.istore_n 3, 1) := by decide +kernel
theorem d_J1_indexOf_4cfef_22 : decode prog_18_method_22_code 22 = .ok (.iload_n 2, 1) := by decide +kernel
theorem d_J1_indexOf_4cfef_23 : decode prog_18_method_22_code 23 = .ok (.iload_n 3, 1) := by decide +kernel
theorem d_J1_indexOf_4cfef_24 : decode prog_18_method_22_code 24 = .ok (.if_icmp .lt 5, 3) := by decide +kernel
theorem d_J1_indexOf_4cfef_27 : decode prog_18_method_22_code 27 = .ok (.iconst (-1), 1) := by decide +kernel
theorem d_J1_indexOf_4cfef_28 : decode prog_18_method_22_code 28 = .ok (.ireturn, 1) := by decide +kernel
theorem d_J1_indexOf_4cfef_29 : decode prog_18_method_22_code 29 = .ok (.aload_n 0, 1) := by decide +kernel
theorem d_J1_indexOf_4cfef_30 : decode prog_18_method_22_code 30 = .ok (.iload_n 1, 1) := by decide +kernel
theorem d_J1_indexOf_4cfef_31 : decode prog_18_method_22_code 31 = .ok (.iload_n 2, 1) := by decide +kernel
theorem d_J1_indexOf_4cfef_32 : decode prog_18_method_22_code 32 = .ok (.iload_n 3, 1) := by decide +kernel
theorem d_J1_indexOf_4cfef_33 : decode prog_18_method_22_code 33 = .ok (.invokestatic 95, 3) := by decide +kernel
theorem d_J1_indexOf_4cfef_36 : decode prog_18_method_22_code 36 = .ok (.ireturn, 1) := by decide +kernel
theorem d_J0_indexOf_7cf53_0 : decode prog_17_method_80_code 0 = .ok (.aload_n 0, 1) := by decide +kernel
theorem d_J0_indexOf_7cf53_1 : decode prog_17_method_80_code 1 = .ok (.invokevirtual 492, 3) := by decide +kernel
theorem d_J0_indexOf_7cf53_4 : decode prog_17_method_80_code 4 = .ok (.ifCond .eq 19, 3) := by decide +kernel
theorem d_J0_indexOf_7cf53_7 : decode prog_17_method_80_code 7 = .ok (.aload_n 0, 1) := by decide +kernel
theorem d_J0_indexOf_7cf53_8 : decode prog_17_method_80_code 8 = .ok (.getfield 9, 3) := by decide +kernel
theorem d_J0_indexOf_7cf53_11 : decode prog_17_method_80_code 11 = .ok (.iload_n 1, 1) := by decide +kernel
theorem d_J0_indexOf_7cf53_12 : decode prog_17_method_80_code 12 = .ok (.iload_n 2, 1) := by decide +kernel
theorem d_J0_indexOf_7cf53_13 : decode prog_17_method_80_code 13 = .ok (.aload_n 0, 1) := by decide +kernel
theorem d_J0_indexOf_7cf53_14 : decode prog_17_method_80_code 14 = .ok (.invokevirtual 505, 3) := by decide +kernel
theorem d_J0_indexOf_7cf53_17 : decode prog_17_method_80_code 17 = .ok (.invokestatic 637, 3) := by decide +kernel
theorem d_J0_indexOf_7cf53_20 : decode prog_17_method_80_code 20 = .ok (.goto 16, 3) := by decide +kernel
theorem d_J0_indexOf_7cf53_23 : decode prog_17_method_80_code 23 = .ok (.aload_n 0, 1) := by decide +kernel
theorem d_J0_indexOf_7cf53_24 : decode prog_17_method_80_code 24 = .ok (.getfield 9, 3) := by decide +kernel
theorem d_J0_indexOf_7cf53_27 : decode prog_17_method_80_code 27 = .ok (.iload_n 1, 1) := by decide +kernel
theorem d_J0_indexOf_7cf53_28 : decode prog_17_method_80_code 28 = .ok (.iload_n 2, 1) := by decide +kernel
theorem d_J0_indexOf_7cf53_29 : decode prog_17_method_80_code 29 = .ok (.aload_n 0, 1) := by decide +kernel
theorem d_J0_indexOf_7cf53_30 : decode prog_17_method_80_code 30 = .ok (.invokevirtual 505, 3) := by decide +kernel
theorem d_J0_indexOf_7cf53_33 : decode prog_17_method_80_code 33 = .ok (.invokestatic 640, 3) := by decide +kernel
theorem d_J0_indexOf_7cf53_36 : decode prog_17_method_80_code 36 = .ok (.ireturn, 1) := by decide +kernel
theorem d_J0_indexOf_0f7a4_0 : decode prog_17_method_79_code 0 = .ok (.aload_n 0, 1) := by decide +kernel
theorem d_J0_indexOf_0f7a4_1 : decode prog_17_method_79_code 1 = .ok (.iload_n 1, 1) := by decide +kernel
theorem d_J0_indexOf_0f7a4_2 : decode prog_17_method_79_code 2 = .ok (.iconst 0, 1) := by decide +kernel
theorem d_J0_indexOf_0f7a4_3 : decode prog_17_method_79_code 3 = .ok (.invokevirtual 633, 3) := by decide +kernel
theorem d_J0_indexOf_0f7a4_6 : decode prog_17_method_79_code 6 = .ok (.ireturn, 1) := by decide +kernel
theorem d_J7_fill_53178_0 : decode prog_21_method_103_code 0 = .ok (.iconst 0, 1) := by decide +kernel
theorem d_J7_fill_53178_1 : decode prog_21_method_103_code 1 = .ok (.istore_n 2, 1) := by decide +kernel
theorem d_J7_fill_53178_2 : decode prog_21_method_103_code 2 = .ok (.aload_n 0, 1) := by decide +kernel
theorem d_J7_fill_53178_3 : decode prog_21_method_103_code 3 = .ok (.arraylength, 1) := by decide +kernel
theorem d_J7_fill_53178_4 : decode prog_21_method_103_code 4 = .ok (.istore_n 3, 1) := by decide +kernel
theorem d_J7_fill_53178_5 : decode prog_21_method_103_code 5 = .ok (.iload_n 2, 1) := by decide +kernel
theorem d_J7_fill_53178_6 : decode prog_21_method_103_code 6 = .ok (.iload_n 3, 1) := by decide +kernel
theorem d_J7_fill_53178_7 : decode prog_21_method_103_code 7 = .ok (.if_icmp .ge 13, 3) := by decide +kernel
theorem d_J7_fill_53178_10 : decode prog_21_method_103_code 10 = .ok (.aload_n 0, 1) := by decide +kernel
theorem d_J7_fill_53178_11 : decode prog_21_method_103_code 11 = .ok (.iload_n 2, 1) := by decide +kernel
theorem d_J7_fill_53178_12 : decode prog_21_method_103_code 12 = .ok (.iload_n 1, 1) := by decide +kernel
theorem d_J7_fill_53178_13 : decode prog_21_method_103_code 13 = .ok (.iastore, 1) := by decide +kernel
theorem d_J7_fill_53178_14 : decode prog_21_method_103_code 14 = .ok (.iinc 2 1, 3) := by decide +kernel
theorem d_J7_fill_53178_17 : decode prog_21_method_103_code 17 = .ok (.goto (-12), 3) := by decide +kernel
theorem d_J7_fill_53178_20 : decode prog_21_method_103_code 20 = .ok (.return_, 1) := by decide +kernel
theorem d_J9_floorMod_7cf53_0 : decode prog_16_method_50_code 0 = .ok (.iload_n 0, 1) := by decide +kernel
theorem d_J9_floorMod_7cf53_1 : decode prog_16_method_50_code 1 = .ok (.iload_n 1, 1) := by decide +kernel
theorem d_J9_floorMod_7cf53_2 : decode prog_16_method_50_code 2 = .ok (.irem, 1) := by decide +kernel
theorem d_J9_floorMod_7cf53_3 : decode prog_16_method_50_code 3 = .ok (.istore_n 2, 1) := by decide +kernel
theorem d_J9_floorMod_7cf53_4 : decode prog_16_method_50_code 4 = .ok (.iload_n 0, 1) := by decide +kernel
theorem d_J9_floorMod_7cf53_5 : decode prog_16_method_50_code 5 = .ok (.iload_n 1, 1) := by decide +kernel
theorem d_J9_floorMod_7cf53_6 : decode prog_16_method_50_code 6 = .ok (.ixor, 1) := by decide +kernel
theorem d_J9_floorMod_7cf53_7 : decode prog_16_method_50_code 7 = .ok (.ifCond .ge 11, 3) := by decide +kernel
theorem d_J9_floorMod_7cf53_10 : decode prog_16_method_50_code 10 = .ok (.iload_n 2, 1) := by decide +kernel
theorem d_J9_floorMod_7cf53_11 : decode prog_16_method_50_code 11 = .ok (.ifCond .eq 7, 3) := by decide +kernel
theorem d_J9_floorMod_7cf53_14 : decode prog_16_method_50_code 14 = .ok (.iload_n 2, 1) := by decide +kernel
theorem d_J9_floorMod_7cf53_15 : decode prog_16_method_50_code 15 = .ok (.iload_n 1, 1) := by decide +kernel
theorem d_J9_floorMod_7cf53_16 : decode prog_16_method_50_code 16 = .ok (.iadd, 1) := by decide +kernel
theorem d_J9_floorMod_7cf53_17 : decode prog_16_method_50_code 17 = .ok (.ireturn, 1) := by decide +kernel
theorem d_J9_floorMod_7cf53_18 : decode prog_16_method_50_code 18 = .ok (.iload_n 2, 1) := by decide +kernel
theorem d_J9_floorMod_7cf53_19 : decode prog_16_method_50_code 19 = .ok (.ireturn, 1) := by decide +kernel
theorem d_X11_isInside_0 : decode prog_1_method_28_code 0 = .ok (.iload_n 0, 1) := by decide +kernel
theorem d_X11_isInside_1 : decode prog_1_method_28_code 1 = .ok (.ifCond .lt 12, 3) := by decide +kernel
theorem d_X11_isInside_4 : decode prog_1_method_28_code 4 = .ok (.iload_n 0, 1) := by decide +kernel
theorem d_X11_isInside_5 : decode prog_1_method_28_code 5 = .ok (.iload_n 1, 1) := by decide +kernel
theorem d_X11_isInside_6 : decode prog_1_method_28_code 6 = .ok (.if_icmp .ge 7, 3) := by decide +kernel
theorem d_X11_isInside_9 : decode prog_1_method_28_code 9 = .ok (.iconst 1, 1) := by decide +kernel
theorem d_X11_isInside_10 : decode prog_1_method_28_code 10 = .ok (.goto 4, 3) := by decide +kernel
theorem d_X11_isInside_13 : decode prog_1_method_28_code 13 = .ok (.iconst 0, 1) := by decide +kernel
theorem d_X11_isInside_14 : decode prog_1_method_28_code 14 = .ok (.ireturn, 1) := by decide +kernel
theorem d_X4_kindOf_0 : decode prog_6_method_6_code 0 = .ok (.iload_n 1, 1) := by decide +kernel
theorem d_X4_kindOf_1 : decode prog_6_method_6_code 1 = .ok (.sipush 400, 3) := by decide +kernel
theorem d_X4_kindOf_4 : decode prog_6_method_6_code 4 = .ok (.invokestatic 46, 3) := by decide +kernel
theorem d_X4_kindOf_7 : decode prog_6_method_6_code 7 = .ok (.ifCond .eq 12, 3) := by decide +kernel
theorem d_X4_kindOf_10 : decode prog_6_method_6_code 10 = .ok (.aload_n 0, 1) := by decide +kernel
theorem d_X4_kindOf_11 : decode prog_6_method_6_code 11 = .ok (.getfield 9, 3) := by decide +kernel
theorem d_X4_kindOf_14 : decode prog_6_method_6_code 14 = .ok (.iload_n 1, 1) := by decide +kernel
theorem d_X4_kindOf_15 : decode prog_6_method_6_code 15 = .ok (.iaload, 1) := by decide +kernel
theorem d_X4_kindOf_16 : decode prog_6_method_6_code 16 = .ok (.goto 4, 3) := by decide +kernel
theorem d_X4_kindOf_19 : decode prog_6_method_6_code 19 = .ok (.iconst (-1), 1) := by decide +kernel
theorem d_X4_kindOf_20 : decode prog_6_method_6_code 20 = .ok (.ireturn, 1) := by decide +kernel
theorem d_X11_agentOf_0 : decode prog_1_method_24_code 0 = .ok (.iload_n 0, 1) := by decide +kernel
theorem d_X11_agentOf_1 : decode prog_1_method_24_code 1 = .ok (.iconst 3, 1) := by decide +kernel
theorem d_X11_agentOf_2 : decode prog_1_method_24_code 2 = .ok (.ishr, 1) := by decide +kernel
theorem d_X11_agentOf_3 : decode prog_1_method_24_code 3 = .ok (.ireturn, 1) := by decide +kernel
theorem d_X11_portOf_0 : decode prog_1_method_25_code 0 = .ok (.iload_n 0, 1) := by decide +kernel
theorem d_X11_portOf_1 : decode prog_1_method_25_code 1 = .ok (.bipush 7, 2) := by decide +kernel
theorem d_X11_portOf_3 : decode prog_1_method_25_code 3 = .ok (.iand, 1) := by decide +kernel
theorem d_X11_portOf_4 : decode prog_1_method_25_code 4 = .ok (.ireturn, 1) := by decide +kernel
theorem d_X4_has_0 : decode prog_6_method_4_code 0 = .ok (.iload_n 1, 1) := by decide +kernel
theorem d_X4_has_1 : decode prog_6_method_4_code 1 = .ok (.ifCond .lt 24, 3) := by decide +kernel
theorem d_X4_has_4 : decode prog_6_method_4_code 4 = .ok (.iload_n 1, 1) := by decide +kernel
theorem d_X4_has_5 : decode prog_6_method_4_code 5 = .ok (.sipush 400, 3) := by decide +kernel
theorem d_X4_has_8 : decode prog_6_method_4_code 8 = .ok (.if_icmp .ge 17, 3) := by decide +kernel
theorem d_X4_has_11 : decode prog_6_method_4_code 11 = .ok (.aload_n 0, 1) := by decide +kernel
theorem d_X4_has_12 : decode prog_6_method_4_code 12 = .ok (.getfield 9, 3) := by decide +kernel
theorem d_X4_has_15 : decode prog_6_method_4_code 15 = .ok (.iload_n 1, 1) := by decide +kernel
theorem d_X4_has_16 : decode prog_6_method_4_code 16 = .ok (.iaload, 1) := by decide +kernel
theorem d_X4_has_17 : decode prog_6_method_4_code 17 = .ok (.iconst (-1), 1) := by decide +kernel
theorem d_X4_has_18 : decode prog_6_method_4_code 18 = .ok (.if_icmp .eq 7, 3) := by decide +kernel
theorem d_X4_has_21 : decode prog_6_method_4_code 21 = .ok (.iconst 1, 1) := by decide +kernel
theorem d_X4_has_22 : decode prog_6_method_4_code 22 = .ok (.goto 4, 3) := by decide +kernel
theorem d_X4_has_25 : decode prog_6_method_4_code 25 = .ok (.iconst 0, 1) := by decide +kernel
theorem d_X4_has_26 : decode prog_6_method_4_code 26 = .ok (.ireturn, 1) := by decide +kernel
theorem d_X4_mateOf_0 : decode prog_6_method_13_code 0 = .ok (.aload_n 0, 1) := by decide +kernel
theorem d_X4_mateOf_1 : decode prog_6_method_13_code 1 = .ok (.iload_n 1, 1) := by decide +kernel
theorem d_X4_mateOf_2 : decode prog_6_method_13_code 2 = .ok (.invokevirtual 56, 3) := by decide +kernel
theorem d_X4_mateOf_5 : decode prog_6_method_13_code 5 = .ok (.ifCond .eq 15, 3) := by decide +kernel
theorem d_X4_mateOf_8 : decode prog_6_method_13_code 8 = .ok (.aload_n 0, 1) := by decide +kernel
theorem d_X4_mateOf_9 : decode prog_6_method_13_code 9 = .ok (.getfield 15, 3) := by decide +kernel
theorem d_X4_mateOf_12 : decode prog_6_method_13_code 12 = .ok (.iload_n 1, 1) := by decide +kernel
theorem d_X4_mateOf_13 : decode prog_6_method_13_code 13 = .ok (.bipush 8, 2) := by decide +kernel
theorem d_X4_mateOf_15 : decode prog_6_method_13_code 15 = .ok (.imul, 1) := by decide +kernel
theorem d_X4_mateOf_16 : decode prog_6_method_13_code 16 = .ok (.iaload, 1) := by decide +kernel
theorem d_X4_mateOf_17 : decode prog_6_method_13_code 17 = .ok (.goto 4, 3) := by decide +kernel
theorem d_X4_mateOf_20 : decode prog_6_method_13_code 20 = .ok (.iconst (-1), 1) := by decide +kernel
theorem d_X4_mateOf_21 : decode prog_6_method_13_code 21 = .ok (.istore_n 2, 1) := by decide +kernel
theorem d_X4_mateOf_22 : decode prog_6_method_13_code 22 = .ok (.iload_n 2, 1) := by decide +kernel
theorem d_X4_mateOf_23 : decode prog_6_method_13_code 23 = .ok (.ifCond .lt 17, 3) := by decide +kernel
theorem d_X4_mateOf_26 : decode prog_6_method_13_code 26 = .ok (.iload_n 2, 1) := by decide +kernel
theorem d_X4_mateOf_27 : decode prog_6_method_13_code 27 = .ok (.invokestatic 71, 3) := by decide +kernel
theorem d_X4_mateOf_30 : decode prog_6_method_13_code 30 = .ok (.ifCond .ne 10, 3) := by decide +kernel
theorem d_X4_mateOf_33 : decode prog_6_method_13_code 33 = .ok (.iload_n 2, 1) := by decide +kernel
theorem d_X4_mateOf_34 : decode prog_6_method_13_code 34 = .ok (.invokestatic 74, 3) := by decide +kernel
theorem d_X4_mateOf_37 : decode prog_6_method_13_code 37 = .ok (.goto 4, 3) := by decide +kernel
theorem d_X4_mateOf_40 : decode prog_6_method_13_code 40 = .ok (.iconst (-1), 1) := by decide +kernel
theorem d_X4_mateOf_41 : decode prog_6_method_13_code 41 = .ok (.ireturn, 1) := by decide +kernel
theorem d_X8_ruleFor_0 : decode prog_10_method_5_code 0 = .ok (.iload_n 1, 1) := by decide +kernel
theorem d_X8_ruleFor_1 : decode prog_10_method_5_code 1 = .ok (.bipush 16, 2) := by decide +kernel
theorem d_X8_ruleFor_3 : decode prog_10_method_5_code 3 = .ok (.invokestatic 43, 3) := by decide +kernel
theorem d_X8_ruleFor_6 : decode prog_10_method_5_code 6 = .ok (.ifCond .eq 26, 3) := by decide +kernel
theorem d_X8_ruleFor_9 : decode prog_10_method_5_code 9 = .ok (.iload_n 2, 1) := by decide +kernel
theorem d_X8_ruleFor_10 : decode prog_10_method_5_code 10 = .ok (.bipush 16, 2) := by decide +kernel
theorem d_X8_ruleFor_12 : decode prog_10_method_5_code 12 = .ok (.invokestatic 43, 3) := by decide +kernel
theorem d_X8_ruleFor_15 : decode prog_10_method_5_code 15 = .ok (.ifCond .eq 17, 3) := by decide +kernel
theorem d_X8_ruleFor_18 : decode prog_10_method_5_code 18 = .ok (.aload_n 0, 1) := by decide +kernel
theorem d_X8_ruleFor_19 : decode prog_10_method_5_code 19 = .ok (.getfield 9, 3) := by decide +kernel
theorem d_X8_ruleFor_22 : decode prog_10_method_5_code 22 = .ok (.iload_n 1, 1) := by decide +kernel
theorem d_X8_ruleFor_23 : decode prog_10_method_5_code 23 = .ok (.bipush 16, 2) := by decide +kernel
theorem d_X8_ruleFor_25 : decode prog_10_method_5_code 25 = .ok (.imul, 1) := by decide +kernel
theorem d_X8_ruleFor_26 : decode prog_10_method_5_code 26 = .ok (.iload_n 2, 1) := by decide +kernel
theorem d_X8_ruleFor_27 : decode prog_10_method_5_code 27 = .ok (.iadd, 1) := by decide +kernel
theorem d_X8_ruleFor_28 : decode prog_10_method_5_code 28 = .ok (.iaload, 1) := by decide +kernel
theorem d_X8_ruleFor_29 : decode prog_10_method_5_code 29 = .ok (.goto 4, 3) := by decide +kernel
theorem d_X8_ruleFor_32 : decode prog_10_method_5_code 32 = .ok (.iconst (-1), 1) := by decide +kernel
theorem d_X8_ruleFor_33 : decode prog_10_method_5_code 33 = .ok (.ireturn, 1) := by decide +kernel
theorem d_X0_aliveRule_0 : decode prog_2_method_3_code 0 = .ok (.aload_n 0, 1) := by decide +kernel
theorem d_X0_aliveRule_1 : decode prog_2_method_3_code 1 = .ok (.getfield 28, 3) := by decide +kernel
theorem d_X0_aliveRule_4 : decode prog_2_method_3_code 4 = .ok (.iload_n 1, 1) := by decide +kernel
theorem d_X0_aliveRule_5 : decode prog_2_method_3_code 5 = .ok (.invokevirtual 40, 3) := by decide +kernel
theorem d_X0_aliveRule_8 : decode prog_2_method_3_code 8 = .ok (.istore_n 2, 1) := by decide +kernel
theorem d_X0_aliveRule_9 : decode prog_2_method_3_code 9 = .ok (.iload_n 2, 1) := by decide +kernel
theorem d_X0_aliveRule_10 : decode prog_2_method_3_code 10 = .ok (.iconst (-1), 1) := by decide +kernel
theorem d_X0_aliveRule_11 : decode prog_2_method_3_code 11 = .ok (.if_icmp .ne 7, 3) := by decide +kernel
theorem d_X0_aliveRule_14 : decode prog_2_method_3_code 14 = .ok (.iconst (-1), 1) := by decide +kernel
theorem d_X0_aliveRule_15 : decode prog_2_method_3_code 15 = .ok (.goto 26, 3) := by decide +kernel
theorem d_X0_aliveRule_18 : decode prog_2_method_3_code 18 = .ok (.aload_n 0, 1) := by decide +kernel
theorem d_X0_aliveRule_19 : decode prog_2_method_3_code 19 = .ok (.getfield 21, 3) := by decide +kernel
theorem d_X0_aliveRule_22 : decode prog_2_method_3_code 22 = .ok (.aload_n 0, 1) := by decide +kernel
theorem d_X0_aliveRule_23 : decode prog_2_method_3_code 23 = .ok (.getfield 28, 3) := by decide +kernel
theorem d_X0_aliveRule_26 : decode prog_2_method_3_code 26 = .ok (.iload_n 1, 1) := by decide +kernel
theorem d_X0_aliveRule_27 : decode prog_2_method_3_code 27 = .ok (.invokevirtual 44, 3) := by decide +kernel
theorem d_X0_aliveRule_30 : decode prog_2_method_3_code 30 = .ok (.aload_n 0, 1) := by decide +kernel
theorem d_X0_aliveRule_31 : decode prog_2_method_3_code 31 = .ok (.getfield 28, 3) := by decide +kernel
theorem d_X0_aliveRule_34 : decode prog_2_method_3_code 34 = .ok (.iload_n 2, 1) := by decide +kernel
theorem d_X0_aliveRule_35 : decode prog_2_method_3_code 35 = .ok (.invokevirtual 44, 3) := by decide +kernel
theorem d_X0_aliveRule_38 : decode prog_2_method_3_code 38 = .ok (.invokevirtual 47, 3) := by decide +kernel
theorem d_X0_aliveRule_41 : decode prog_2_method_3_code 41 = .ok (.ireturn, 1) := by decide +kernel
theorem d_X0_isPair_0 : decode prog_2_method_4_code 0 = .ok (.aload_n 0, 1) := by decide +kernel
theorem d_X0_isPair_1 : decode prog_2_method_4_code 1 = .ok (.getfield 28, 3) := by decide +kernel
theorem d_X0_isPair_4 : decode prog_2_method_4_code 4 = .ok (.iload_n 1, 1) := by decide +kernel
theorem d_X0_isPair_5 : decode prog_2_method_4_code 5 = .ok (.invokevirtual 40, 3) := by decide +kernel
theorem d_X0_isPair_8 : decode prog_2_method_4_code 8 = .ok (.iload_n 1, 1) := by decide +kernel
theorem d_X0_isPair_9 : decode prog_2_method_4_code 9 = .ok (.if_icmp .le 25, 3) := by decide +kernel
theorem d_X0_isPair_12 : decode prog_2_method_4_code 12 = .ok (.aload_n 0, 1) := by decide +kernel
theorem d_X0_isPair_13 : decode prog_2_method_4_code 13 = .ok (.iload_n 1, 1) := by decide +kernel
theorem d_X0_isPair_14 : decode prog_2_method_4_code 14 = .ok (.invokevirtual 51, 3) := by decide +kernel
theorem d_X0_isPair_17 : decode prog_2_method_4_code 17 = .ok (.iconst (-1), 1) := by decide +kernel
theorem d_X0_isPair_18 : decode prog_2_method_4_code 18 = .ok (.if_icmp .eq 7, 3) := by decide +kernel
theorem d_X0_isPair_21 : decode prog_2_method_4_code 21 = .ok (.iconst 1, 1) := by decide +kernel
theorem d_X0_isPair_22 : decode prog_2_method_4_code 22 = .ok (.goto 4, 3) := by decide +kernel
theorem d_X0_isPair_25 : decode prog_2_method_4_code 25 = .ok (.iconst 0, 1) := by decide +kernel
theorem d_X0_isPair_26 : decode prog_2_method_4_code 26 = .ok (.iload_n 2, 1) := by decide +kernel
theorem d_X0_isPair_27 : decode prog_2_method_4_code 27 = .ok (.if_icmp .ne 7, 3) := by decide +kernel
theorem d_X0_isPair_30 : decode prog_2_method_4_code 30 = .ok (.iconst 1, 1) := by decide +kernel
theorem d_X0_isPair_31 : decode prog_2_method_4_code 31 = .ok (.goto 4, 3) := by decide +kernel
theorem d_X0_isPair_34 : decode prog_2_method_4_code 34 = .ok (.iconst 0, 1) := by decide +kernel
theorem d_X0_isPair_35 : decode prog_2_method_4_code 35 = .ok (.ireturn, 1) := by decide +kernel
theorem d_X0_alivePairAt_0 : decode prog_2_method_6_code 0 = .ok (.iload_n 1, 1) := by decide +kernel
theorem d_X0_alivePairAt_1 : decode prog_2_method_6_code 1 = .ok (.istore_n 2, 1) := by decide +kernel
theorem d_X0_alivePairAt_2 : decode prog_2_method_6_code 2 = .ok (.iconst 0, 1) := by decide +kernel
theorem d_X0_alivePairAt_3 : decode prog_2_method_6_code 3 = .ok (.istore_n 3, 1) := by decide +kernel
theorem d_X0_alivePairAt_4 : decode prog_2_method_6_code 4 = .ok (.iload_n 3, 1) := by decide +kernel
theorem d_X0_alivePairAt_5 : decode prog_2_method_6_code 5 = .ok (.aload_n 0, 1) := by decide +kernel
theorem d_X0_alivePairAt_6 : decode prog_2_method_6_code 6 = .ok (.getfield 28, 3) := by decide +kernel
theorem d_X0_alivePairAt_9 : decode prog_2_method_6_code 9 = .ok (.getfield 54, 3) := by decide +kernel
theorem d_X0_alivePairAt_12 : decode prog_2_method_6_code 12 = .ok (.if_icmp .ge 31, 3) := by decide +kernel
theorem d_X0_alivePairAt_15 : decode prog_2_method_6_code 15 = .ok (.iload_n 2, 1) := by decide +kernel
theorem d_X0_alivePairAt_16 : decode prog_2_method_6_code 16 = .ok (.ifCond .lt 27, 3) := by decide +kernel
theorem d_X0_alivePairAt_19 : decode prog_2_method_6_code 19 = .ok (.aload_n 0, 1) := by decide +kernel
theorem d_X0_alivePairAt_20 : decode prog_2_method_6_code 20 = .ok (.iload_n 3, 1) := by decide +kernel
theorem d_X0_alivePairAt_21 : decode prog_2_method_6_code 21 = .ok (.iconst 1, 1) := by decide +kernel
theorem d_X0_alivePairAt_22 : decode prog_2_method_6_code 22 = .ok (.invokevirtual 57, 3) := by decide +kernel
theorem d_X0_alivePairAt_25 : decode prog_2_method_6_code 25 = .ok (.ifCond .eq 12, 3) := by decide +kernel
theorem d_X0_alivePairAt_28 : decode prog_2_method_6_code 28 = .ok (.iload_n 2, 1) := by decide +kernel
theorem d_X0_alivePairAt_29 : decode prog_2_method_6_code 29 = .ok (.ifCond .ne 5, 3) := by decide +kernel
theorem d_X0_alivePairAt_32 : decode prog_2_method_6_code 32 = .ok (.iload_n 3, 1) := by decide +kernel
theorem d_X0_alivePairAt_33 : decode prog_2_method_6_code 33 = .ok (.ireturn, 1) := by decide +kernel
theorem d_X0_alivePairAt_34 : decode prog_2_method_6_code 34 = .ok (.iinc 2 (-1), 3) := by decide +kernel
theorem d_X0_alivePairAt_37 : decode prog_2_method_6_code 37 = .ok (.iinc 3 1, 3) := by decide +kernel
theorem d_X0_alivePairAt_40 : decode prog_2_method_6_code 40 = .ok (.goto (-36), 3) := by decide +kernel
theorem d_X0_alivePairAt_43 : decode prog_2_method_6_code 43 = .ok (.iconst (-1), 1) := by decide +kernel
theorem d_X0_alivePairAt_44 : decode prog_2_method_6_code 44 = .ok (.ireturn, 1) := by decide +kernel
theorem d_X4_clear_0 : decode prog_6_method_2_code 0 = .ok (.aload_n 0, 1) := by decide +kernel
theorem d_X4_clear_1 : decode prog_6_method_2_code 1 = .ok (.getfield 9, 3) := by decide +kernel
theorem d_X4_clear_4 : decode prog_6_method_2_code 4 = .ok (.iconst (-1), 1) := by decide +kernel
theorem d_X4_clear_5 : decode prog_6_method_2_code 5 = .ok (.invokestatic 21, 3) := by decide +kernel
theorem d_X4_clear_8 : decode prog_6_method_2_code 8 = .ok (.aload_n 0, 1) := by decide +kernel
theorem d_X4_clear_9 : decode prog_6_method_2_code 9 = .ok (.iconst 0, 1) := by decide +kernel
theorem d_X4_clear_10 : decode prog_6_method_2_code 10 = .ok (.putfield 27, 3) := by decide +kernel
theorem d_X4_clear_13 : decode prog_6_method_2_code 13 = .ok (.aload_n 0, 1) := by decide +kernel
theorem d_X4_clear_14 : decode prog_6_method_2_code 14 = .ok (.iconst 0, 1) := by decide +kernel
theorem d_X4_clear_15 : decode prog_6_method_2_code 15 = .ok (.putfield 31, 3) := by decide +kernel
theorem d_X4_clear_18 : decode prog_6_method_2_code 18 = .ok (.aload_n 0, 1) := by decide +kernel
theorem d_X4_clear_19 : decode prog_6_method_2_code 19 = .ok (.iconst 0, 1) := by decide +kernel
theorem d_X4_clear_20 : decode prog_6_method_2_code 20 = .ok (.putfield 34, 3) := by decide +kernel
theorem d_X4_clear_23 : decode prog_6_method_2_code 23 = .ok (.aload_n 0, 1) := by decide +kernel
theorem d_X4_clear_24 : decode prog_6_method_2_code 24 = .ok (.iconst 0, 1) := by decide +kernel
theorem d_X4_clear_25 : decode prog_6_method_2_code 25 = .ok (.putfield 37, 3) := by decide +kernel
theorem d_X4_clear_28 : decode prog_6_method_2_code 28 = .ok (.return_, 1) := by decide +kernel
theorem d_X8_clear_0 : decode prog_10_method_2_code 0 = .ok (.aload_n 0, 1) := by decide +kernel
theorem d_X8_clear_1 : decode prog_10_method_2_code 1 = .ok (.getfield 9, 3) := by decide +kernel
theorem d_X8_clear_4 : decode prog_10_method_2_code 4 = .ok (.iconst (-1), 1) := by decide +kernel
theorem d_X8_clear_5 : decode prog_10_method_2_code 5 = .ok (.invokestatic 33, 3) := by decide +kernel
theorem d_X8_clear_8 : decode prog_10_method_2_code 8 = .ok (.aload_n 0, 1) := by decide +kernel
theorem d_X8_clear_9 : decode prog_10_method_2_code 9 = .ok (.iconst 0, 1) := by decide +kernel
theorem d_X8_clear_10 : decode prog_10_method_2_code 10 = .ok (.putfield 39, 3) := by decide +kernel
theorem d_X8_clear_13 : decode prog_10_method_2_code 13 = .ok (.return_, 1) := by decide +kernel
theorem d_X0_clear_0 : decode prog_2_method_2_code 0 = .ok (.aload_n 0, 1) := by decide +kernel
theorem d_X0_clear_1 : decode prog_2_method_2_code 1 = .ok (.getfield 12, 3) := by decide +kernel
theorem d_X0_clear_4 : decode prog_2_method_2_code 4 = .ok (.iconst 0, 1) := by decide +kernel
theorem d_X0_clear_5 : decode prog_2_method_2_code 5 = .ok (.putfield 32, 3) := by decide +kernel
theorem d_X0_clear_8 : decode prog_2_method_2_code 8 = .ok (.aload_n 0, 1) := by decide +kernel
theorem d_X0_clear_9 : decode prog_2_method_2_code 9 = .ok (.getfield 21, 3) := by decide +kernel
theorem d_X0_clear_12 : decode prog_2_method_2_code 12 = .ok (.invokevirtual 36, 3) := by decide +kernel
theorem d_X0_clear_15 : decode prog_2_method_2_code 15 = .ok (.aload_n 0, 1) := by decide +kernel
theorem d_X0_clear_16 : decode prog_2_method_2_code 16 = .ok (.getfield 28, 3) := by decide +kernel
theorem d_X0_clear_19 : decode prog_2_method_2_code 19 = .ok (.invokevirtual 39, 3) := by decide +kernel
theorem d_X0_clear_22 : decode prog_2_method_2_code 22 = .ok (.return_, 1) := by decide +kernel
theorem d_X0_countPairs_0 : decode prog_2_method_5_code 0 = .ok (.iconst 0, 1) := by decide +kernel
theorem d_X0_countPairs_1 : decode prog_2_method_5_code 1 = .ok (.istore_n 2, 1) := by decide +kernel
theorem d_X0_countPairs_2 : decode prog_2_method_5_code 2 = .ok (.iconst 0, 1) := by decide +kernel
theorem d_X0_countPairs_3 : decode prog_2_method_5_code 3 = .ok (.istore_n 3, 1) := by decide +kernel
theorem d_X0_countPairs_4 : decode prog_2_method_5_code 4 = .ok (.iload_n 3, 1) := by decide +kernel
theorem d_X0_countPairs_5 : decode prog_2_method_5_code 5 = .ok (.aload_n 0, 1) := by decide +kernel
theorem d_X0_countPairs_6 : decode prog_2_method_5_code 6 = .ok (.getfield 28, 3) := by decide +kernel
theorem d_X0_countPairs_9 : decode prog_2_method_5_code 9 = .ok (.getfield 54, 3) := by decide +kernel
theorem d_X0_countPairs_12 : decode prog_2_method_5_code 12 = .ok (.if_icmp .ge 21, 3) := by decide +kernel
theorem d_X0_countPairs_15 : decode prog_2_method_5_code 15 = .ok (.aload_n 0, 1) := by decide +kernel
theorem d_X0_countPairs_16 : decode prog_2_method_5_code 16 = .ok (.iload_n 3, 1) := by decide +kernel
theorem d_X0_countPairs_17 : decode prog_2_method_5_code 17 = .ok (.iload_n 1, 1) := by decide +kernel
theorem d_X0_countPairs_18 : decode prog_2_method_5_code 18 = .ok (.invokevirtual 57, 3) := by decide +kernel
theorem d_X0_countPairs_21 : decode prog_2_method_5_code 21 = .ok (.ifCond .eq 6, 3) := by decide +kernel
theorem d_X0_countPairs_24 : decode prog_2_method_5_code 24 = .ok (.iinc 2 1, 3) := by decide +kernel
theorem d_X0_countPairs_27 : decode prog_2_method_5_code 27 = .ok (.iinc 3 1, 3) := by decide +kernel
theorem d_X0_countPairs_30 : decode prog_2_method_5_code 30 = .ok (.goto (-26), 3) := by decide +kernel
theorem d_X0_countPairs_33 : decode prog_2_method_5_code 33 = .ok (.iload_n 2, 1) := by decide +kernel
theorem d_X0_countPairs_34 : decode prog_2_method_5_code 34 = .ok (.ireturn, 1) := by decide +kernel
theorem d_X0_greatestAlivePair_0 : decode prog_2_method_7_code 0 = .ok (.aload_n 0, 1) := by decide +kernel
theorem d_X0_greatestAlivePair_1 : decode prog_2_method_7_code 1 = .ok (.getfield 28, 3) := by decide +kernel
theorem d_X0_greatestAlivePair_4 : decode prog_2_method_7_code 4 = .ok (.getfield 54, 3) := by decide +kernel
theorem d_X0_greatestAlivePair_7 : decode prog_2_method_7_code 7 = .ok (.iconst 1, 1) := by decide +kernel
theorem d_X0_greatestAlivePair_8 : decode prog_2_method_7_code 8 = .ok (.isub, 1) := by decide +kernel
theorem d_X0_greatestAlivePair_9 : decode prog_2_method_7_code 9 = .ok (.istore_n 1, 1) := by decide +kernel
theorem d_X0_greatestAlivePair_10 : decode prog_2_method_7_code 10 = .ok (.iload_n 1, 1) := by decide +kernel
theorem d_X0_greatestAlivePair_11 : decode prog_2_method_7_code 11 = .ok (.ifCond .lt 20, 3) := by decide +kernel
theorem d_X0_greatestAlivePair_14 : decode prog_2_method_7_code 14 = .ok (.aload_n 0, 1) := by decide +kernel
theorem d_X0_greatestAlivePair_15 : decode prog_2_method_7_code 15 = .ok (.iload_n 1, 1) := by decide +kernel
theorem d_X0_greatestAlivePair_16 : decode prog_2_method_7_code 16 = .ok (.iconst 1, 1) := by decide +kernel
theorem d_X0_greatestAlivePair_17 : decode prog_2_method_7_code 17 = .ok (.invokevirtual 57, 3) := by decide +kernel
theorem d_X0_greatestAlivePair_20 : decode prog_2_method_7_code 20 = .ok (.ifCond .eq 5, 3) := by decide +kernel
theorem d_X0_greatestAlivePair_23 : decode prog_2_method_7_code 23 = .ok (.iload_n 1, 1) := by decide +kernel
theorem d_X0_greatestAlivePair_24 : decode prog_2_method_7_code 24 = .ok (.ireturn, 1) := by decide +kernel
theorem d_X0_greatestAlivePair_25 : decode prog_2_method_7_code 25 = .ok (.iinc 1 (-1), 3) := by decide +kernel
theorem d_X0_greatestAlivePair_28 : decode prog_2_method_7_code 28 = .ok (.goto (-18), 3) := by decide +kernel
theorem d_X0_greatestAlivePair_31 : decode prog_2_method_7_code 31 = .ok (.iconst (-1), 1) := by decide +kernel
theorem d_X0_greatestAlivePair_32 : decode prog_2_method_7_code 32 = .ok (.ireturn, 1) := by decide +kernel
theorem d_X0_listAlivePairs_0 : decode prog_2_method_8_code 0 = .ok (.iconst 0, 1) := by decide +kernel
theorem d_X0_listAlivePairs_1 : decode prog_2_method_8_code 1 = .ok (.istore_n 2, 1) := by decide +kernel
theorem d_X0_listAlivePairs_2 : decode prog_2_method_8_code 2 = .ok (.iconst 0, 1) := by decide +kernel
theorem d_X0_listAlivePairs_3 : decode prog_2_method_8_code 3 = .ok (.istore_n 3, 1) := by decide +kernel
theorem d_X0_listAlivePairs_4 : decode prog_2_method_8_code 4 = .ok (.iload_n 3, 1) := by decide +kernel
theorem d_X0_listAlivePairs_5 : decode prog_2_method_8_code 5 = .ok (.aload_n 0, 1) := by decide +kernel
theorem d_X0_listAlivePairs_6 : decode prog_2_method_8_code 6 = .ok (.getfield 28, 3) := by decide +kernel
theorem d_X0_listAlivePairs_9 : decode prog_2_method_8_code 9 = .ok (.getfield 54, 3) := by decide +kernel
theorem d_X0_listAlivePairs_12 : decode prog_2_method_8_code 12 = .ok (.if_icmp .ge 31, 3) := by decide +kernel
theorem d_X0_listAlivePairs_15 : decode prog_2_method_8_code 15 = .ok (.iload_n 2, 1) := by decide +kernel
theorem d_X0_listAlivePairs_16 : decode prog_2_method_8_code 16 = .ok (.aload_n 1, 1) := by decide +kernel
theorem d_X0_listAlivePairs_17 : decode prog_2_method_8_code 17 = .ok (.arraylength, 1) := by decide +kernel
theorem d_X0_listAlivePairs_18 : decode prog_2_method_8_code 18 = .ok (.if_icmp .ge 25, 3) := by decide +kernel
theorem d_X0_listAlivePairs_21 : decode prog_2_method_8_code 21 = .ok (.aload_n 0, 1) := by decide +kernel
theorem d_X0_listAlivePairs_22 : decode prog_2_method_8_code 22 = .ok (.iload_n 3, 1) := by decide +kernel
theorem d_X0_listAlivePairs_23 : decode prog_2_method_8_code 23 = .ok (.iconst 1, 1) := by decide +kernel
theorem d_X0_listAlivePairs_24 : decode prog_2_method_8_code 24 = .ok (.invokevirtual 57, 3) := by decide +kernel
theorem d_X0_listAlivePairs_27 : decode prog_2_method_8_code 27 = .ok (.ifCond .eq 10, 3) := by decide +kernel
theorem d_X0_listAlivePairs_30 : decode prog_2_method_8_code 30 = .ok (.aload_n 1, 1) := by decide +kernel
theorem d_X0_listAlivePairs_31 : decode prog_2_method_8_code 31 = .ok (.iload_n 2, 1) := by decide +kernel
theorem d_X0_listAlivePairs_32 : decode prog_2_method_8_code 32 = .ok (.iload_n 3, 1) := by decide +kernel
theorem d_X0_listAlivePairs_33 : decode prog_2_method_8_code 33 = .ok (.iastore, 1) := by decide +kernel
theorem d_X0_listAlivePairs_34 : decode prog_2_method_8_code 34 = .ok (.iinc 2 1, 3) := by decide +kernel
theorem d_X0_listAlivePairs_37 : decode prog_2_method_8_code 37 = .ok (.iinc 3 1, 3) := by decide +kernel
theorem d_X0_listAlivePairs_40 : decode prog_2_method_8_code 40 = .ok (.goto (-36), 3) := by decide +kernel
theorem d_X0_listAlivePairs_43 : decode prog_2_method_8_code 43 = .ok (.iload_n 2, 1) := by decide +kernel
theorem d_X0_listAlivePairs_44 : decode prog_2_method_8_code 44 = .ok (.ireturn, 1) := by decide +kernel
theorem d_X4_waitsFor_0 : decode prog_6_method_14_code 0 = .ok (.aload_n 0, 1) := by decide +kernel
theorem d_X4_waitsFor_1 : decode prog_6_method_14_code 1 = .ok (.iload_n 1, 1) := by decide +kernel
theorem d_X4_waitsFor_2 : decode prog_6_method_14_code 2 = .ok (.invokevirtual 56, 3) := by decide +kernel
theorem d_X4_waitsFor_5 : decode prog_6_method_14_code 5 = .ok (.ifCond .eq 15, 3) := by decide +kernel
theorem d_X4_waitsFor_8 : decode prog_6_method_14_code 8 = .ok (.aload_n 0, 1) := by decide +kernel
theorem d_X4_waitsFor_9 : decode prog_6_method_14_code 9 = .ok (.getfield 15, 3) := by decide +kernel
theorem d_X4_waitsFor_12 : decode prog_6_method_14_code 12 = .ok (.iload_n 1, 1) := by decide +kernel
theorem d_X4_waitsFor_13 : decode prog_6_method_14_code 13 = .ok (.bipush 8, 2) := by decide +kernel
theorem d_X4_waitsFor_15 : decode prog_6_method_14_code 15 = .ok (.imul, 1) := by decide +kernel
theorem d_X4_waitsFor_16 : decode prog_6_method_14_code 16 = .ok (.iaload, 1) := by decide +kernel
theorem d_X4_waitsFor_17 : decode prog_6_method_14_code 17 = .ok (.goto 4, 3) := by decide +kernel
theorem d_X4_waitsFor_20 : decode prog_6_method_14_code 20 = .ok (.iconst (-1), 1) := by decide +kernel
theorem d_X4_waitsFor_21 : decode prog_6_method_14_code 21 = .ok (.istore_n 2, 1) := by decide +kernel
theorem d_X4_waitsFor_22 : decode prog_6_method_14_code 22 = .ok (.iload_n 2, 1) := by decide +kernel
theorem d_X4_waitsFor_23 : decode prog_6_method_14_code 23 = .ok (.ifCond .lt 17, 3) := by decide +kernel
theorem d_X4_waitsFor_26 : decode prog_6_method_14_code 26 = .ok (.iload_n 2, 1) := by decide +kernel
theorem d_X4_waitsFor_27 : decode prog_6_method_14_code 27 = .ok (.invokestatic 71, 3) := by decide +kernel
theorem d_X4_waitsFor_30 : decode prog_6_method_14_code 30 = .ok (.ifCond .eq 10, 3) := by decide +kernel
theorem d_X4_waitsFor_33 : decode prog_6_method_14_code 33 = .ok (.iload_n 2, 1) := by decide +kernel
theorem d_X4_waitsFor_34 : decode prog_6_method_14_code 34 = .ok (.invokestatic 74, 3) := by decide +kernel
theorem d_X4_waitsFor_37 : decode prog_6_method_14_code 37 = .ok (.goto 4, 3) := by decide +kernel
theorem d_X4_waitsFor_40 : decode prog_6_method_14_code 40 = .ok (.iconst (-1), 1) := by decide +kernel
theorem d_X4_waitsFor_41 : decode prog_6_method_14_code 41 = .ok (.ireturn, 1) := by decide +kernel
theorem d_X10_countCircles_0 : decode prog_12_method_10_code 0 = .ok (.aload_n 0, 1) := by decide +kernel
theorem d_X10_countCircles_1 : decode prog_12_method_10_code 1 = .ok (.getfield 15, 3) := by decide +kernel
theorem d_X10_countCircles_4 : decode prog_12_method_10_code 4 = .ok (.iconst (-1), 1) := by decide +kernel
theorem d_X10_countCircles_5 : decode prog_12_method_10_code 5 = .ok (.invokestatic 18, 3) := by decide +kernel
theorem d_X10_countCircles_8 : decode prog_12_method_10_code 8 = .ok (.iconst 0, 1) := by decide +kernel
theorem d_X10_countCircles_9 : decode prog_12_method_10_code 9 = .ok (.istore_n 2, 1) := by decide +kernel
theorem d_X10_countCircles_10 : decode prog_12_method_10_code 10 = .ok (.iconst 0, 1) := by decide +kernel
theorem d_X10_countCircles_11 : decode prog_12_method_10_code 11 = .ok (.istore_n 3, 1) := by decide +kernel
theorem d_X10_countCircles_12 : decode prog_12_method_10_code 12 = .ok (.iload_n 3, 1) := by decide +kernel
theorem d_X10_countCircles_13 : decode prog_12_method_10_code 13 = .ok (.aload_n 1, 1) := by decide +kernel
theorem d_X10_countCircles_14 : decode prog_12_method_10_code 14 = .ok (.getfield 91, 3) := by decide +kernel
theorem d_X10_countCircles_17 : decode prog_12_method_10_code 17 = .ok (.if_icmp .ge 99, 3) := by decide +kernel
theorem d_X10_countCircles_20 : decode prog_12_method_10_code 20 = .ok (.iload_n 3, 1) := by decide +kernel
theorem d_X10_countCircles_21 : decode prog_12_method_10_code 21 = .ok (.sipush 400, 3) := by decide +kernel
theorem d_X10_countCircles_24 : decode prog_12_method_10_code 24 = .ok (.if_icmp .ge 92, 3) := by decide +kernel
theorem d_X10_countCircles_27 : decode prog_12_method_10_code 27 = .ok (.iload_n 3, 1) := by decide +kernel
theorem d_X10_countCircles_28 : decode prog_12_method_10_code 28 = .ok (.istore 4, 2) := by decide +kernel
theorem d_X10_countCircles_30 : decode prog_12_method_10_code 30 = .ok (.iconst 0, 1) := by decide +kernel
theorem d_X10_countCircles_31 : decode prog_12_method_10_code 31 = .ok (.istore 5, 2) := by decide +kernel
theorem d_X10_countCircles_33 : decode prog_12_method_10_code 33 = .ok (.iload 5, 2) := by decide +kernel
theorem d_X10_countCircles_35 : decode prog_12_method_10_code 35 = .ok (.sipush 400, 3) := by decide +kernel
theorem d_X10_countCircles_38 : decode prog_12_method_10_code 38 = .ok (.if_icmp .ge 47, 3) := by decide +kernel
theorem d_X10_countCircles_41 : decode prog_12_method_10_code 41 = .ok (.iload 4, 2) := by decide +kernel
theorem d_X10_countCircles_43 : decode prog_12_method_10_code 43 = .ok (.sipush 400, 3) := by decide +kernel
theorem d_X10_countCircles_46 : decode prog_12_method_10_code 46 = .ok (.invokestatic 63, 3) := by decide +kernel
theorem d_X10_countCircles_49 : decode prog_12_method_10_code 49 = .ok (.ifCond .eq 36, 3) := by decide +kernel
theorem d_X10_countCircles_52 : decode prog_12_method_10_code 52 = .ok (.aload_n 0, 1) := by decide +kernel
theorem d_X10_countCircles_53 : decode prog_12_method_10_code 53 = .ok (.getfield 15, 3) := by decide +kernel
theorem d_X10_countCircles_56 : decode prog_12_method_10_code 56 = .ok (.iload 4, 2) := by decide +kernel
theorem d_X10_countCircles_58 : decode prog_12_method_10_code 58 = .ok (.iaload, 1) := by decide +kernel
theorem d_X10_countCircles_59 : decode prog_12_method_10_code 59 = .ok (.iconst (-1), 1) := by decide +kernel
theorem d_X10_countCircles_60 : decode prog_12_method_10_code 60 = .ok (.if_icmp .ne 25, 3) := by decide +kernel
theorem d_X10_countCircles_63 : decode prog_12_method_10_code 63 = .ok (.aload_n 0, 1) := by decide +kernel
theorem d_X10_countCircles_64 : decode prog_12_method_10_code 64 = .ok (.getfield 15, 3) := by decide +kernel
theorem d_X10_countCircles_67 : decode prog_12_method_10_code 67 = .ok (.iload 4, 2) := by decide +kernel
theorem d_X10_countCircles_69 : decode prog_12_method_10_code 69 = .ok (.iload_n 3, 1) := by decide +kernel
theorem d_X10_countCircles_70 : decode prog_12_method_10_code 70 = .ok (.iastore, 1) := by decide +kernel
theorem d_X10_countCircles_71 : decode prog_12_method_10_code 71 = .ok (.aload_n 1, 1) := by decide +kernel
theorem d_X10_countCircles_72 : decode prog_12_method_10_code 72 = .ok (.iload 4, 2) := by decide +kernel
theorem d_X10_countCircles_74 : decode prog_12_method_10_code 74 = .ok (.invokevirtual 94, 3) := by decide +kernel
theorem d_X10_countCircles_77 : decode prog_12_method_10_code 77 = .ok (.istore 4, 2) := by decide +kernel
theorem d_X10_countCircles_79 : decode prog_12_method_10_code 79 = .ok (.iinc 5 1, 3) := by decide +kernel
theorem d_X10_countCircles_82 : decode prog_12_method_10_code 82 = .ok (.goto (-49), 3) := by decide +kernel
theorem d_X10_countCircles_85 : decode prog_12_method_10_code 85 = .ok (.iload 4, 2) := by decide +kernel
theorem d_X10_countCircles_87 : decode prog_12_method_10_code 87 = .ok (.sipush 400, 3) := by decide +kernel
theorem d_X10_countCircles_90 : decode prog_12_method_10_code 90 = .ok (.invokestatic 63, 3) := by decide +kernel
theorem d_X10_countCircles_93 : decode prog_12_method_10_code 93 = .ok (.ifCond .eq 17, 3) := by decide +kernel
theorem d_X10_countCircles_96 : decode prog_12_method_10_code 96 = .ok (.aload_n 0, 1) := by decide +kernel
theorem d_X10_countCircles_97 : decode prog_12_method_10_code 97 = .ok (.getfield 15, 3) := by decide +kernel
theorem d_X10_countCircles_100 : decode prog_12_method_10_code 100 = .ok (.iload 4, 2) := by decide +kernel
theorem d_X10_countCircles_102 : decode prog_12_method_10_code 102 = .ok (.iaload, 1) := by decide +kernel
theorem d_X10_countCircles_103 : decode prog_12_method_10_code 103 = .ok (.iload_n 3, 1) := by decide +kernel
theorem d_X10_countCircles_104 : decode prog_12_method_10_code 104 = .ok (.if_icmp .ne 6, 3) := by decide +kernel
theorem d_X10_countCircles_107 : decode prog_12_method_10_code 107 = .ok (.iinc 2 1, 3) := by decide +kernel
theorem d_X10_countCircles_110 : decode prog_12_method_10_code 110 = .ok (.iinc 3 1, 3) := by decide +kernel
theorem d_X10_countCircles_113 : decode prog_12_method_10_code 113 = .ok (.goto (-101), 3) := by decide +kernel
theorem d_X10_countCircles_116 : decode prog_12_method_10_code 116 = .ok (.iload_n 2, 1) := by decide +kernel
theorem d_X10_countCircles_117 : decode prog_12_method_10_code 117 = .ok (.ireturn, 1) := by decide +kernel
theorem d_X10_reach_0 : decode prog_12_method_4_code 0 = .ok (.iload_n 1, 1) := by decide +kernel
theorem d_X10_reach_1 : decode prog_12_method_4_code 1 = .ok (.ifCond .ge 7, 3) := by decide +kernel
theorem d_X10_reach_4 : decode prog_12_method_4_code 4 = .ok (.iconst (-1), 1) := by decide +kernel
theorem d_X10_reach_5 : decode prog_12_method_4_code 5 = .ok (.goto 7, 3) := by decide +kernel
theorem d_X10_reach_8 : decode prog_12_method_4_code 8 = .ok (.iload_n 1, 1) := by decide +kernel
theorem d_X10_reach_9 : decode prog_12_method_4_code 9 = .ok (.invokestatic 60, 3) := by decide +kernel
theorem d_X10_reach_12 : decode prog_12_method_4_code 12 = .ok (.istore_n 2, 1) := by decide +kernel
theorem d_X10_reach_13 : decode prog_12_method_4_code 13 = .ok (.iload_n 2, 1) := by decide +kernel
theorem d_X10_reach_14 : decode prog_12_method_4_code 14 = .ok (.sipush 400, 3) := by decide +kernel
theorem d_X10_reach_17 : decode prog_12_method_4_code 17 = .ok (.invokestatic 63, 3) := by decide +kernel
theorem d_X10_reach_20 : decode prog_12_method_4_code 20 = .ok (.ifCond .eq 53, 3) := by decide +kernel
theorem d_X10_reach_23 : decode prog_12_method_4_code 23 = .ok (.aload_n 0, 1) := by decide +kernel
theorem d_X10_reach_24 : decode prog_12_method_4_code 24 = .ok (.getfield 15, 3) := by decide +kernel
theorem d_X10_reach_27 : decode prog_12_method_4_code 27 = .ok (.iload_n 2, 1) := by decide +kernel
theorem d_X10_reach_28 : decode prog_12_method_4_code 28 = .ok (.iaload, 1) := by decide +kernel
theorem d_X10_reach_29 : decode prog_12_method_4_code 29 = .ok (.iconst (-1), 1) := by decide +kernel
theorem d_X10_reach_30 : decode prog_12_method_4_code 30 = .ok (.if_icmp .ne 43, 3) := by decide +kernel
theorem d_X10_reach_33 : decode prog_12_method_4_code 33 = .ok (.aload_n 0, 1) := by decide +kernel
theorem d_X10_reach_34 : decode prog_12_method_4_code 34 = .ok (.getfield 24, 3) := by decide +kernel
theorem d_X10_reach_37 : decode prog_12_method_4_code 37 = .ok (.sipush 400, 3) := by decide +kernel
theorem d_X10_reach_40 : decode prog_12_method_4_code 40 = .ok (.if_icmp .ge 33, 3) := by decide +kernel
theorem d_X10_reach_43 : decode prog_12_method_4_code 43 = .ok (.aload_n 0, 1) := by decide +kernel
theorem d_X10_reach_44 : decode prog_12_method_4_code 44 = .ok (.getfield 15, 3) := by decide +kernel
theorem d_X10_reach_47 : decode prog_12_method_4_code 47 = .ok (.iload_n 2, 1) := by decide +kernel
theorem d_X10_reach_48 : decode prog_12_method_4_code 48 = .ok (.aload_n 0, 1) := by decide +kernel
theorem d_X10_reach_49 : decode prog_12_method_4_code 49 = .ok (.getfield 24, 3) := by decide +kernel
theorem d_X10_reach_52 : decode prog_12_method_4_code 52 = .ok (.iastore, 1) := by decide +kernel
theorem d_X10_reach_53 : decode prog_12_method_4_code 53 = .ok (.aload_n 0, 1) := by decide +kernel
theorem d_X10_reach_54 : decode prog_12_method_4_code 54 = .ok (.getfield 9, 3) := by decide +kernel
theorem d_X10_reach_57 : decode prog_12_method_4_code 57 = .ok (.aload_n 0, 1) := by decide +kernel
theorem d_X10_reach_58 : decode prog_12_method_4_code 58 = .ok (.getfield 24, 3) := by decide +kernel
theorem d_X10_reach_61 : decode prog_12_method_4_code 61 = .ok (.iload_n 2, 1) := by decide +kernel
theorem d_X10_reach_62 : decode prog_12_method_4_code 62 = .ok (.iastore, 1) := by decide +kernel
theorem d_X10_reach_63 : decode prog_12_method_4_code 63 = .ok (.aload_n 0, 1) := by decide +kernel
theorem d_X10_reach_64 : decode prog_12_method_4_code 64 = .ok (.dup, 1) := by decide +kernel
theorem d_X10_reach_65 : decode prog_12_method_4_code 65 = .ok (.getfield 24, 3) := by decide +kernel
theorem d_X10_reach_68 : decode prog_12_method_4_code 68 = .ok (.iconst 1, 1) := by decide +kernel
theorem d_X10_reach_69 : decode prog_12_method_4_code 69 = .ok (.iadd, 1) := by decide +kernel
theorem d_X10_reach_70 : decode prog_12_method_4_code 70 = .ok (.putfield 24, 3) := by decide +kernel
theorem d_X10_reach_73 : decode prog_12_method_4_code 73 = .ok (.return_, 1) := by decide +kernel
theorem d_X11_portCode_0 : decode prog_1_method_23_code 0 = .ok (.bipush 8, 2) := by decide +kernel
theorem d_X11_portCode_2 : decode prog_1_method_23_code 2 = .ok (.iload_n 0, 1) := by decide +kernel
theorem d_X11_portCode_3 : decode prog_1_method_23_code 3 = .ok (.imul, 1) := by decide +kernel
theorem d_X11_portCode_4 : decode prog_1_method_23_code 4 = .ok (.iload_n 1, 1) := by decide +kernel
theorem d_X11_portCode_5 : decode prog_1_method_23_code 5 = .ok (.iadd, 1) := by decide +kernel
theorem d_X11_portCode_6 : decode prog_1_method_23_code 6 = .ok (.ireturn, 1) := by decide +kernel
theorem d_X3_portsOf_0 : decode prog_5_method_7_code 0 = .ok (.iload_n 1, 1) := by decide +kernel
theorem d_X3_portsOf_1 : decode prog_5_method_7_code 1 = .ok (.ifCond .lt 26, 3) := by decide +kernel
theorem d_X3_portsOf_4 : decode prog_5_method_7_code 4 = .ok (.iload_n 1, 1) := by decide +kernel
theorem d_X3_portsOf_5 : decode prog_5_method_7_code 5 = .ok (.aload_n 0, 1) := by decide +kernel
theorem d_X3_portsOf_6 : decode prog_5_method_7_code 6 = .ok (.getfield 22, 3) := by decide +kernel
theorem d_X3_portsOf_9 : decode prog_5_method_7_code 9 = .ok (.if_icmp .ge 18, 3) := by decide +kernel
theorem d_X3_portsOf_12 : decode prog_5_method_7_code 12 = .ok (.iload_n 1, 1) := by decide +kernel
theorem d_X3_portsOf_13 : decode prog_5_method_7_code 13 = .ok (.bipush 16, 2) := by decide +kernel
theorem d_X3_portsOf_15 : decode prog_5_method_7_code 15 = .ok (.if_icmp .ge 12, 3) := by decide +kernel
theorem d_X3_portsOf_18 : decode prog_5_method_7_code 18 = .ok (.aload_n 0, 1) := by decide +kernel
theorem d_X3_portsOf_19 : decode prog_5_method_7_code 19 = .ok (.getfield 15, 3) := by decide +kernel
theorem d_X3_portsOf_22 : decode prog_5_method_7_code 22 = .ok (.iload_n 1, 1) := by decide +kernel
theorem d_X3_portsOf_23 : decode prog_5_method_7_code 23 = .ok (.iaload, 1) := by decide +kernel
theorem d_X3_portsOf_24 : decode prog_5_method_7_code 24 = .ok (.goto 4, 3) := by decide +kernel
theorem d_X3_portsOf_27 : decode prog_5_method_7_code 27 = .ok (.iconst 0, 1) := by decide +kernel
theorem d_X3_portsOf_28 : decode prog_5_method_7_code 28 = .ok (.ireturn, 1) := by decide +kernel
theorem d_X11_endOf_0 : decode prog_1_method_27_code 0 = .ok (.bipush (-2), 2) := by decide +kernel
theorem d_X11_endOf_2 : decode prog_1_method_27_code 2 = .ok (.iload_n 0, 1) := by decide +kernel
theorem d_X11_endOf_3 : decode prog_1_method_27_code 3 = .ok (.isub, 1) := by decide +kernel
theorem d_X11_endOf_4 : decode prog_1_method_27_code 4 = .ok (.ireturn, 1) := by decide +kernel
theorem d_X4_wireOf_0 : decode prog_6_method_10_code 0 = .ok (.iload_n 1, 1) := by decide +kernel
theorem d_X4_wireOf_1 : decode prog_6_method_10_code 1 = .ok (.aload_n 0, 1) := by decide +kernel
theorem d_X4_wireOf_2 : decode prog_6_method_10_code 2 = .ok (.getfield 15, 3) := by decide +kernel
theorem d_X4_wireOf_5 : decode prog_6_method_10_code 5 = .ok (.arraylength, 1) := by decide +kernel
theorem d_X4_wireOf_6 : decode prog_6_method_10_code 6 = .ok (.invokestatic 46, 3) := by decide +kernel
theorem d_X4_wireOf_9 : decode prog_6_method_10_code 9 = .ok (.ifCond .eq 10, 3) := by decide +kernel
theorem d_X4_wireOf_12 : decode prog_6_method_10_code 12 = .ok (.aload_n 0, 1) := by decide +kernel
theorem d_X4_wireOf_13 : decode prog_6_method_10_code 13 = .ok (.getfield 15, 3) := by decide +kernel
theorem d_X4_wireOf_16 : decode prog_6_method_10_code 16 = .ok (.iload_n 1, 1) := by decide +kernel
theorem d_X4_wireOf_17 : decode prog_6_method_10_code 17 = .ok (.iaload, 1) := by decide +kernel
theorem d_X4_wireOf_18 : decode prog_6_method_10_code 18 = .ok (.ireturn, 1) := by decide +kernel
theorem d_X4_wireOf_19 : decode prog_6_method_10_code 19 = .ok (.iload_n 1, 1) := by decide +kernel
theorem d_X4_wireOf_20 : decode prog_6_method_10_code 20 = .ok (.invokestatic 63, 3) := by decide +kernel
theorem d_X4_wireOf_23 : decode prog_6_method_10_code 23 = .ok (.aload_n 0, 1) := by decide +kernel
theorem d_X4_wireOf_24 : decode prog_6_method_10_code 24 = .ok (.getfield 18, 3) := by decide +kernel
theorem d_X4_wireOf_27 : decode prog_6_method_10_code 27 = .ok (.arraylength, 1) := by decide +kernel
theorem d_X4_wireOf_28 : decode prog_6_method_10_code 28 = .ok (.invokestatic 46, 3) := by decide +kernel
theorem d_X4_wireOf_31 : decode prog_6_method_10_code 31 = .ok (.ifCond .eq 15, 3) := by decide +kernel
theorem d_X4_wireOf_34 : decode prog_6_method_10_code 34 = .ok (.aload_n 0, 1) := by decide +kernel
theorem d_X4_wireOf_35 : decode prog_6_method_10_code 35 = .ok (.getfield 18, 3) := by decide +kernel
theorem d_X4_wireOf_38 : decode prog_6_method_10_code 38 = .ok (.iload_n 1, 1) := by decide +kernel
theorem d_X4_wireOf_39 : decode prog_6_method_10_code 39 = .ok (.invokestatic 63, 3) := by decide +kernel
theorem d_X4_wireOf_42 : decode prog_6_method_10_code 42 = .ok (.iaload, 1) := by decide +kernel
theorem d_X4_wireOf_43 : decode prog_6_method_10_code 43 = .ok (.goto 4, 3) := by decide +kernel
theorem d_X4_wireOf_46 : decode prog_6_method_10_code 46 = .ok (.iconst (-1), 1) := by decide +kernel
theorem d_X4_wireOf_47 : decode prog_6_method_10_code 47 = .ok (.ireturn, 1) := by decide +kernel
theorem d_X10_goThrough_0 : decode prog_12_method_3_code 0 = .ok (.aload_n 2, 1) := by decide +kernel
theorem d_X10_goThrough_1 : decode prog_12_method_3_code 1 = .ok (.aload_n 1, 1) := by decide +kernel
theorem d_X10_goThrough_2 : decode prog_12_method_3_code 2 = .ok (.iload_n 3, 1) := by decide +kernel
theorem d_X10_goThrough_3 : decode prog_12_method_3_code 3 = .ok (.invokevirtual 48, 3) := by decide +kernel
theorem d_X10_goThrough_6 : decode prog_12_method_3_code 6 = .ok (.invokevirtual 51, 3) := by decide +kernel
theorem d_X10_goThrough_9 : decode prog_12_method_3_code 9 = .ok (.istore 4, 2) := by decide +kernel
theorem d_X10_goThrough_11 : decode prog_12_method_3_code 11 = .ok (.iconst 0, 1) := by decide +kernel
theorem d_X10_goThrough_12 : decode prog_12_method_3_code 12 = .ok (.istore 5, 2) := by decide +kernel
theorem d_X10_goThrough_14 : decode prog_12_method_3_code 14 = .ok (.iload 5, 2) := by decide +kernel
theorem d_X10_goThrough_16 : decode prog_12_method_3_code 16 = .ok (.iload 4, 2) := by decide +kernel
theorem d_X10_goThrough_18 : decode prog_12_method_3_code 18 = .ok (.if_icmp .ge 23, 3) := by decide +kernel
theorem d_X10_goThrough_21 : decode prog_12_method_3_code 21 = .ok (.aload_n 0, 1) := by decide +kernel
theorem d_X10_goThrough_22 : decode prog_12_method_3_code 22 = .ok (.aload_n 1, 1) := by decide +kernel
theorem d_X10_goThrough_23 : decode prog_12_method_3_code 23 = .ok (.iload_n 3, 1) := by decide +kernel
theorem d_X10_goThrough_24 : decode prog_12_method_3_code 24 = .ok (.iload 5, 2) := by decide +kernel
theorem d_X10_goThrough_26 : decode prog_12_method_3_code 26 = .ok (.invokestatic 56, 3) := by decide +kernel
theorem d_X10_goThrough_29 : decode prog_12_method_3_code 29 = .ok (.invokevirtual 37, 3) := by decide +kernel
theorem d_X10_goThrough_32 : decode prog_12_method_3_code 32 = .ok (.invokevirtual 40, 3) := by decide +kernel
theorem d_X10_goThrough_35 : decode prog_12_method_3_code 35 = .ok (.iinc 5 1, 3) := by decide +kernel
theorem d_X10_goThrough_38 : decode prog_12_method_3_code 38 = .ok (.goto (-24), 3) := by decide +kernel
theorem d_X10_goThrough_41 : decode prog_12_method_3_code 41 = .ok (.return_, 1) := by decide +kernel
theorem d_X10_numbered_0 : decode prog_12_method_9_code 0 = .ok (.iload_n 1, 1) := by decide +kernel
theorem d_X10_numbered_1 : decode prog_12_method_9_code 1 = .ok (.ifCond .lt 16, 3) := by decide +kernel
theorem d_X10_numbered_4 : decode prog_12_method_9_code 4 = .ok (.iload_n 1, 1) := by decide +kernel
theorem d_X10_numbered_5 : decode prog_12_method_9_code 5 = .ok (.invokestatic 60, 3) := by decide +kernel
theorem d_X10_numbered_8 : decode prog_12_method_9_code 8 = .ok (.sipush 400, 3) := by decide +kernel
theorem d_X10_numbered_11 : decode prog_12_method_9_code 11 = .ok (.invokestatic 63, 3) := by decide +kernel
theorem d_X10_numbered_14 : decode prog_12_method_9_code 14 = .ok (.ifCond .ne 5, 3) := by decide +kernel
theorem d_X10_numbered_17 : decode prog_12_method_9_code 17 = .ok (.iload_n 1, 1) := by decide +kernel
theorem d_X10_numbered_18 : decode prog_12_method_9_code 18 = .ok (.ireturn, 1) := by decide +kernel
theorem d_X10_numbered_19 : decode prog_12_method_9_code 19 = .ok (.aload_n 0, 1) := by decide +kernel
theorem d_X10_numbered_20 : decode prog_12_method_9_code 20 = .ok (.getfield 15, 3) := by decide +kernel
theorem d_X10_numbered_23 : decode prog_12_method_9_code 23 = .ok (.iload_n 1, 1) := by decide +kernel
theorem d_X10_numbered_24 : decode prog_12_method_9_code 24 = .ok (.invokestatic 60, 3) := by decide +kernel
theorem d_X10_numbered_27 : decode prog_12_method_9_code 27 = .ok (.iaload, 1) := by decide +kernel
theorem d_X10_numbered_28 : decode prog_12_method_9_code 28 = .ok (.iload_n 1, 1) := by decide +kernel
theorem d_X10_numbered_29 : decode prog_12_method_9_code 29 = .ok (.invokestatic 88, 3) := by decide +kernel
theorem d_X10_numbered_32 : decode prog_12_method_9_code 32 = .ok (.invokestatic 56, 3) := by decide +kernel
theorem d_X10_numbered_35 : decode prog_12_method_9_code 35 = .ok (.ireturn, 1) := by decide +kernel
theorem d_X10_hasSameAgents_0 : decode prog_12_method_8_code 0 = .ok (.iconst 0, 1) := by decide +kernel
theorem d_X10_hasSameAgents_1 : decode prog_12_method_8_code 1 = .ok (.istore 5, 2) := by decide +kernel
theorem d_X10_hasSameAgents_3 : decode prog_12_method_8_code 3 = .ok (.iload 5, 2) := by decide +kernel
theorem d_X10_hasSameAgents_5 : decode prog_12_method_8_code 5 = .ok (.aload_n 0, 1) := by decide +kernel
theorem d_X10_hasSameAgents_6 : decode prog_12_method_8_code 6 = .ok (.getfield 24, 3) := by decide +kernel
theorem d_X10_hasSameAgents_9 : decode prog_12_method_8_code 9 = .ok (.if_icmp .ge 120, 3) := by decide +kernel
theorem d_X10_hasSameAgents_12 : decode prog_12_method_8_code 12 = .ok (.iload 5, 2) := by decide +kernel
theorem d_X10_hasSameAgents_14 : decode prog_12_method_8_code 14 = .ok (.sipush 400, 3) := by decide +kernel
theorem d_X10_hasSameAgents_17 : decode prog_12_method_8_code 17 = .ok (.if_icmp .ge 112, 3) := by decide +kernel
theorem d_X10_hasSameAgents_20 : decode prog_12_method_8_code 20 = .ok (.aload_n 0, 1) := by decide +kernel
theorem d_X10_hasSameAgents_21 : decode prog_12_method_8_code 21 = .ok (.getfield 9, 3) := by decide +kernel
theorem d_X10_hasSameAgents_24 : decode prog_12_method_8_code 24 = .ok (.iload 5, 2) := by decide +kernel
theorem d_X10_hasSameAgents_26 : decode prog_12_method_8_code 26 = .ok (.iaload, 1) := by decide +kernel
theorem d_X10_hasSameAgents_27 : decode prog_12_method_8_code 27 = .ok (.istore 6, 2) := by decide +kernel
theorem d_X10_hasSameAgents_29 : decode prog_12_method_8_code 29 = .ok (.aload_n 2, 1) := by decide +kernel
theorem d_X10_hasSameAgents_30 : decode prog_12_method_8_code 30 = .ok (.getfield 9, 3) := by decide +kernel
theorem d_X10_hasSameAgents_33 : decode prog_12_method_8_code 33 = .ok (.iload 5, 2) := by decide +kernel
theorem d_X10_hasSameAgents_35 : decode prog_12_method_8_code 35 = .ok (.iaload, 1) := by decide +kernel
theorem d_X10_hasSameAgents_36 : decode prog_12_method_8_code 36 = .ok (.istore 7, 2) := by decide +kernel
theorem d_X10_hasSameAgents_38 : decode prog_12_method_8_code 38 = .ok (.aload_n 1, 1) := by decide +kernel
theorem d_X10_hasSameAgents_39 : decode prog_12_method_8_code 39 = .ok (.iload 6, 2) := by decide +kernel
theorem d_X10_hasSameAgents_41 : decode prog_12_method_8_code 41 = .ok (.invokevirtual 48, 3) := by decide +kernel
theorem d_X10_hasSameAgents_44 : decode prog_12_method_8_code 44 = .ok (.aload_n 3, 1) := by decide +kernel
theorem d_X10_hasSameAgents_45 : decode prog_12_method_8_code 45 = .ok (.iload 7, 2) := by decide +kernel
theorem d_X10_hasSameAgents_47 : decode prog_12_method_8_code 47 = .ok (.invokevirtual 48, 3) := by decide +kernel
theorem d_X10_hasSameAgents_50 : decode prog_12_method_8_code 50 = .ok (.if_icmp .eq 5, 3) := by decide +kernel
theorem d_X10_hasSameAgents_53 : decode prog_12_method_8_code 53 = .ok (.iconst 0, 1) := by decide +kernel
theorem d_X10_hasSameAgents_54 : decode prog_12_method_8_code 54 = .ok (.ireturn, 1) := by decide +kernel
theorem d_X10_hasSameAgents_55 : decode prog_12_method_8_code 55 = .ok (.aload 4, 2) := by decide +kernel
theorem d_X10_hasSameAgents_57 : decode prog_12_method_8_code 57 = .ok (.aload_n 1, 1) := by decide +kernel
theorem d_X10_hasSameAgents_58 : decode prog_12_method_8_code 58 = .ok (.iload 6, 2) := by decide +kernel
theorem d_X10_hasSameAgents_60 : decode prog_12_method_8_code 60 = .ok (.invokevirtual 48, 3) := by decide +kernel
theorem d_X10_hasSameAgents_63 : decode prog_12_method_8_code 63 = .ok (.invokevirtual 51, 3) := by decide +kernel
theorem d_X10_hasSameAgents_66 : decode prog_12_method_8_code 66 = .ok (.istore 8, 2) := by decide +kernel
theorem d_X10_hasSameAgents_68 : decode prog_12_method_8_code 68 = .ok (.iconst 0, 1) := by decide +kernel
theorem d_X10_hasSameAgents_69 : decode prog_12_method_8_code 69 = .ok (.istore 9, 2) := by decide +kernel
theorem d_X10_hasSameAgents_71 : decode prog_12_method_8_code 71 = .ok (.iload 9, 2) := by decide +kernel
theorem d_X10_hasSameAgents_73 : decode prog_12_method_8_code 73 = .ok (.iload 8, 2) := by decide +kernel
theorem d_X10_hasSameAgents_75 : decode prog_12_method_8_code 75 = .ok (.if_icmp .ge 48, 3) := by decide +kernel
theorem d_X10_hasSameAgents_78 : decode prog_12_method_8_code 78 = .ok (.aload_n 0, 1) := by decide +kernel
theorem d_X10_hasSameAgents_79 : decode prog_12_method_8_code 79 = .ok (.aload_n 1, 1) := by decide +kernel
theorem d_X10_hasSameAgents_80 : decode prog_12_method_8_code 80 = .ok (.iload 6, 2) := by decide +kernel
theorem d_X10_hasSameAgents_82 : decode prog_12_method_8_code 82 = .ok (.iload 9, 2) := by decide +kernel
theorem d_X10_hasSameAgents_84 : decode prog_12_method_8_code 84 = .ok (.invokestatic 56, 3) := by decide +kernel
theorem d_X10_hasSameAgents_87 : decode prog_12_method_8_code 87 = .ok (.invokevirtual 37, 3) := by decide +kernel
theorem d_X10_hasSameAgents_90 : decode prog_12_method_8_code 90 = .ok (.invokevirtual 85, 3) := by decide +kernel
theorem d_X10_hasSameAgents_93 : decode prog_12_method_8_code 93 = .ok (.istore 10, 2) := by decide +kernel
theorem d_X10_hasSameAgents_95 : decode prog_12_method_8_code 95 = .ok (.iload 10, 2) := by decide +kernel
theorem d_X10_hasSameAgents_97 : decode prog_12_method_8_code 97 = .ok (.aload_n 2, 1) := by decide +kernel
theorem d_X10_hasSameAgents_98 : decode prog_12_method_8_code 98 = .ok (.aload_n 3, 1) := by decide +kernel
theorem d_X10_hasSameAgents_99 : decode prog_12_method_8_code 99 = .ok (.iload 7, 2) := by decide +kernel
theorem d_X10_hasSameAgents_101 : decode prog_12_method_8_code 101 = .ok (.iload 9, 2) := by decide +kernel
theorem d_X10_hasSameAgents_103 : decode prog_12_method_8_code 103 = .ok (.invokestatic 56, 3) := by decide +kernel
theorem d_X10_hasSameAgents_106 : decode prog_12_method_8_code 106 = .ok (.invokevirtual 37, 3) := by decide +kernel
theorem d_X10_hasSameAgents_109 : decode prog_12_method_8_code 109 = .ok (.invokevirtual 85, 3) := by decide +kernel
theorem d_X10_hasSameAgents_112 : decode prog_12_method_8_code 112 = .ok (.if_icmp .eq 5, 3) := by decide +kernel
theorem d_X10_hasSameAgents_115 : decode prog_12_method_8_code 115 = .ok (.iconst 0, 1) := by decide +kernel
theorem d_X10_hasSameAgents_116 : decode prog_12_method_8_code 116 = .ok (.ireturn, 1) := by decide +kernel
theorem d_X10_hasSameAgents_117 : decode prog_12_method_8_code 117 = .ok (.iinc 9 1, 3) := by decide +kernel
theorem d_X10_hasSameAgents_120 : decode prog_12_method_8_code 120 = .ok (.goto (-49), 3) := by decide +kernel
theorem d_X10_hasSameAgents_123 : decode prog_12_method_8_code 123 = .ok (.iinc 5 1, 3) := by decide +kernel
theorem d_X10_hasSameAgents_126 : decode prog_12_method_8_code 126 = .ok (.goto (-123), 3) := by decide +kernel
theorem d_X10_hasSameAgents_129 : decode prog_12_method_8_code 129 = .ok (.iconst 1, 1) := by decide +kernel
theorem d_X10_hasSameAgents_130 : decode prog_12_method_8_code 130 = .ok (.ireturn, 1) := by decide +kernel
theorem d_X4_countOfKind_0 : decode prog_6_method_7_code 0 = .ok (.iconst 0, 1) := by decide +kernel
theorem d_X4_countOfKind_1 : decode prog_6_method_7_code 1 = .ok (.istore_n 2, 1) := by decide +kernel
theorem d_X4_countOfKind_2 : decode prog_6_method_7_code 2 = .ok (.iconst 0, 1) := by decide +kernel
theorem d_X4_countOfKind_3 : decode prog_6_method_7_code 3 = .ok (.istore_n 3, 1) := by decide +kernel
theorem d_X4_countOfKind_4 : decode prog_6_method_7_code 4 = .ok (.iload_n 3, 1) := by decide +kernel
theorem d_X4_countOfKind_5 : decode prog_6_method_7_code 5 = .ok (.aload_n 0, 1) := by decide +kernel
theorem d_X4_countOfKind_6 : decode prog_6_method_7_code 6 = .ok (.getfield 37, 3) := by decide +kernel
theorem d_X4_countOfKind_9 : decode prog_6_method_7_code 9 = .ok (.if_icmp .ge 29, 3) := by decide +kernel
theorem d_X4_countOfKind_12 : decode prog_6_method_7_code 12 = .ok (.iload_n 3, 1) := by decide +kernel
theorem d_X4_countOfKind_13 : decode prog_6_method_7_code 13 = .ok (.sipush 400, 3) := by decide +kernel
theorem d_X4_countOfKind_16 : decode prog_6_method_7_code 16 = .ok (.if_icmp .ge 22, 3) := by decide +kernel
theorem d_X4_countOfKind_19 : decode prog_6_method_7_code 19 = .ok (.aload_n 0, 1) := by decide +kernel
theorem d_X4_countOfKind_20 : decode prog_6_method_7_code 20 = .ok (.getfield 9, 3) := by decide +kernel
theorem d_X4_countOfKind_23 : decode prog_6_method_7_code 23 = .ok (.iload_n 3, 1) := by decide +kernel
theorem d_X4_countOfKind_24 : decode prog_6_method_7_code 24 = .ok (.iaload, 1) := by decide +kernel
theorem d_X4_countOfKind_25 : decode prog_6_method_7_code 25 = .ok (.iload_n 1, 1) := by decide +kernel
theorem d_X4_countOfKind_26 : decode prog_6_method_7_code 26 = .ok (.if_icmp .ne 6, 3) := by decide +kernel
theorem d_X4_countOfKind_29 : decode prog_6_method_7_code 29 = .ok (.iinc 2 1, 3) := by decide +kernel
theorem d_X4_countOfKind_32 : decode prog_6_method_7_code 32 = .ok (.iinc 3 1, 3) := by decide +kernel
theorem d_X4_countOfKind_35 : decode prog_6_method_7_code 35 = .ok (.goto (-31), 3) := by decide +kernel
theorem d_X4_countOfKind_38 : decode prog_6_method_7_code 38 = .ok (.iload_n 2, 1) := by decide +kernel
theorem d_X4_countOfKind_39 : decode prog_6_method_7_code 39 = .ok (.ireturn, 1) := by decide +kernel
theorem d_X10_hasSameCounts_0 : decode prog_12_method_6_code 0 = .ok (.iconst 0, 1) := by decide +kernel
theorem d_X10_hasSameCounts_1 : decode prog_12_method_6_code 1 = .ok (.istore_n 2, 1) := by decide +kernel
theorem d_X10_hasSameCounts_2 : decode prog_12_method_6_code 2 = .ok (.iload_n 2, 1) := by decide +kernel
theorem d_X10_hasSameCounts_3 : decode prog_12_method_6_code 3 = .ok (.bipush 16, 2) := by decide +kernel
theorem d_X10_hasSameCounts_5 : decode prog_12_method_6_code 5 = .ok (.if_icmp .ge 24, 3) := by decide +kernel
theorem d_X10_hasSameCounts_8 : decode prog_12_method_6_code 8 = .ok (.aload_n 0, 1) := by decide +kernel
theorem d_X10_hasSameCounts_9 : decode prog_12_method_6_code 9 = .ok (.iload_n 2, 1) := by decide +kernel
theorem d_X10_hasSameCounts_10 : decode prog_12_method_6_code 10 = .ok (.invokevirtual 82, 3) := by decide +kernel
theorem d_X10_hasSameCounts_13 : decode prog_12_method_6_code 13 = .ok (.aload_n 1, 1) := by decide +kernel
theorem d_X10_hasSameCounts_14 : decode prog_12_method_6_code 14 = .ok (.iload_n 2, 1) := by decide +kernel
theorem d_X10_hasSameCounts_15 : decode prog_12_method_6_code 15 = .ok (.invokevirtual 82, 3) := by decide +kernel
theorem d_X10_hasSameCounts_18 : decode prog_12_method_6_code 18 = .ok (.if_icmp .eq 5, 3) := by decide +kernel
theorem d_X10_hasSameCounts_21 : decode prog_12_method_6_code 21 = .ok (.iconst 0, 1) := by decide +kernel
theorem d_X10_hasSameCounts_22 : decode prog_12_method_6_code 22 = .ok (.ireturn, 1) := by decide +kernel
theorem d_X10_hasSameCounts_23 : decode prog_12_method_6_code 23 = .ok (.iinc 2 1, 3) := by decide +kernel
theorem d_X10_hasSameCounts_26 : decode prog_12_method_6_code 26 = .ok (.goto (-24), 3) := by decide +kernel
theorem d_X10_hasSameCounts_29 : decode prog_12_method_6_code 29 = .ok (.iconst 1, 1) := by decide +kernel
theorem d_X10_hasSameCounts_30 : decode prog_12_method_6_code 30 = .ok (.ireturn, 1) := by decide +kernel
theorem d_X11_endCode_0 : decode prog_1_method_26_code 0 = .ok (.bipush (-2), 2) := by decide +kernel
theorem d_X11_endCode_2 : decode prog_1_method_26_code 2 = .ok (.iload_n 0, 1) := by decide +kernel
theorem d_X11_endCode_3 : decode prog_1_method_26_code 3 = .ok (.isub, 1) := by decide +kernel
theorem d_X11_endCode_4 : decode prog_1_method_26_code 4 = .ok (.ireturn, 1) := by decide +kernel
theorem d_X10_hasSameEnds_0 : decode prog_12_method_7_code 0 = .ok (.iconst 0, 1) := by decide +kernel
theorem d_X10_hasSameEnds_1 : decode prog_12_method_7_code 1 = .ok (.istore 4, 2) := by decide +kernel
theorem d_X10_hasSameEnds_3 : decode prog_12_method_7_code 3 = .ok (.iload 4, 2) := by decide +kernel
theorem d_X10_hasSameEnds_5 : decode prog_12_method_7_code 5 = .ok (.aload_n 1, 1) := by decide +kernel
theorem d_X10_hasSameEnds_6 : decode prog_12_method_7_code 6 = .ok (.getfield 28, 3) := by decide +kernel
theorem d_X10_hasSameEnds_9 : decode prog_12_method_7_code 9 = .ok (.if_icmp .ge 40, 3) := by decide +kernel
theorem d_X10_hasSameEnds_12 : decode prog_12_method_7_code 12 = .ok (.aload_n 0, 1) := by decide +kernel
theorem d_X10_hasSameEnds_13 : decode prog_12_method_7_code 13 = .ok (.aload_n 1, 1) := by decide +kernel
theorem d_X10_hasSameEnds_14 : decode prog_12_method_7_code 14 = .ok (.iload 4, 2) := by decide +kernel
theorem d_X10_hasSameEnds_16 : decode prog_12_method_7_code 16 = .ok (.invokestatic 33, 3) := by decide +kernel
theorem d_X10_hasSameEnds_19 : decode prog_12_method_7_code 19 = .ok (.invokevirtual 37, 3) := by decide +kernel
theorem d_X10_hasSameEnds_22 : decode prog_12_method_7_code 22 = .ok (.invokevirtual 85, 3) := by decide +kernel
theorem d_X10_hasSameEnds_25 : decode prog_12_method_7_code 25 = .ok (.aload_n 2, 1) := by decide +kernel
theorem d_X10_hasSameEnds_26 : decode prog_12_method_7_code 26 = .ok (.aload_n 3, 1) := by decide +kernel
theorem d_X10_hasSameEnds_27 : decode prog_12_method_7_code 27 = .ok (.iload 4, 2) := by decide +kernel
theorem d_X10_hasSameEnds_29 : decode prog_12_method_7_code 29 = .ok (.invokestatic 33, 3) := by decide +kernel
theorem d_X10_hasSameEnds_32 : decode prog_12_method_7_code 32 = .ok (.invokevirtual 37, 3) := by decide +kernel
theorem d_X10_hasSameEnds_35 : decode prog_12_method_7_code 35 = .ok (.invokevirtual 85, 3) := by decide +kernel
theorem d_X10_hasSameEnds_38 : decode prog_12_method_7_code 38 = .ok (.if_icmp .eq 5, 3) := by decide +kernel
theorem d_X10_hasSameEnds_41 : decode prog_12_method_7_code 41 = .ok (.iconst 0, 1) := by decide +kernel
theorem d_X10_hasSameEnds_42 : decode prog_12_method_7_code 42 = .ok (.ireturn, 1) := by decide +kernel
theorem d_X10_hasSameEnds_43 : decode prog_12_method_7_code 43 = .ok (.iinc 4 1, 3) := by decide +kernel
theorem d_X10_hasSameEnds_46 : decode prog_12_method_7_code 46 = .ok (.goto (-43), 3) := by decide +kernel
theorem d_X10_hasSameEnds_49 : decode prog_12_method_7_code 49 = .ok (.iconst 1, 1) := by decide +kernel
theorem d_X10_hasSameEnds_50 : decode prog_12_method_7_code 50 = .ok (.ireturn, 1) := by decide +kernel
theorem d_X10_isLike_0 : decode prog_12_method_5_code 0 = .ok (.aload_n 0, 1) := by decide +kernel
theorem d_X10_isLike_1 : decode prog_12_method_5_code 1 = .ok (.getfield 24, 3) := by decide +kernel
theorem d_X10_isLike_4 : decode prog_12_method_5_code 4 = .ok (.aload_n 2, 1) := by decide +kernel
theorem d_X10_isLike_5 : decode prog_12_method_5_code 5 = .ok (.getfield 24, 3) := by decide +kernel
theorem d_X10_isLike_8 : decode prog_12_method_5_code 8 = .ok (.if_icmp .ne 59, 3) := by decide +kernel
theorem d_X10_isLike_11 : decode prog_12_method_5_code 11 = .ok (.aload_n 1, 1) := by decide +kernel
theorem d_X10_isLike_12 : decode prog_12_method_5_code 12 = .ok (.getfield 28, 3) := by decide +kernel
theorem d_X10_isLike_15 : decode prog_12_method_5_code 15 = .ok (.aload_n 3, 1) := by decide +kernel
theorem d_X10_isLike_16 : decode prog_12_method_5_code 16 = .ok (.getfield 28, 3) := by decide +kernel
theorem d_X10_isLike_19 : decode prog_12_method_5_code 19 = .ok (.if_icmp .ne 48, 3) := by decide +kernel
theorem d_X10_isLike_22 : decode prog_12_method_5_code 22 = .ok (.aload_n 1, 1) := by decide +kernel
theorem d_X10_isLike_23 : decode prog_12_method_5_code 23 = .ok (.getfield 67, 3) := by decide +kernel
theorem d_X10_isLike_26 : decode prog_12_method_5_code 26 = .ok (.aload_n 3, 1) := by decide +kernel
theorem d_X10_isLike_27 : decode prog_12_method_5_code 27 = .ok (.getfield 67, 3) := by decide +kernel
theorem d_X10_isLike_30 : decode prog_12_method_5_code 30 = .ok (.if_icmp .ne 37, 3) := by decide +kernel
theorem d_X10_isLike_33 : decode prog_12_method_5_code 33 = .ok (.aload_n 1, 1) := by decide +kernel
theorem d_X10_isLike_34 : decode prog_12_method_5_code 34 = .ok (.aload_n 3, 1) := by decide +kernel
theorem d_X10_isLike_35 : decode prog_12_method_5_code 35 = .ok (.invokestatic 70, 3) := by decide +kernel
theorem d_X10_isLike_38 : decode prog_12_method_5_code 38 = .ok (.ifCond .eq 29, 3) := by decide +kernel
theorem d_X10_isLike_41 : decode prog_12_method_5_code 41 = .ok (.aload_n 0, 1) := by decide +kernel
theorem d_X10_isLike_42 : decode prog_12_method_5_code 42 = .ok (.aload_n 1, 1) := by decide +kernel
theorem d_X10_isLike_43 : decode prog_12_method_5_code 43 = .ok (.aload_n 2, 1) := by decide +kernel
theorem d_X10_isLike_44 : decode prog_12_method_5_code 44 = .ok (.aload_n 3, 1) := by decide +kernel
theorem d_X10_isLike_45 : decode prog_12_method_5_code 45 = .ok (.invokevirtual 74, 3) := by decide +kernel
theorem d_X10_isLike_48 : decode prog_12_method_5_code 48 = .ok (.ifCond .eq 19, 3) := by decide +kernel
theorem d_X10_isLike_51 : decode prog_12_method_5_code 51 = .ok (.aload_n 0, 1) := by decide +kernel
theorem d_X10_isLike_52 : decode prog_12_method_5_code 52 = .ok (.aload_n 1, 1) := by decide +kernel
theorem d_X10_isLike_53 : decode prog_12_method_5_code 53 = .ok (.aload_n 2, 1) := by decide +kernel
theorem d_X10_isLike_54 : decode prog_12_method_5_code 54 = .ok (.aload_n 3, 1) := by decide +kernel
theorem d_X10_isLike_55 : decode prog_12_method_5_code 55 = .ok (.aload 4, 2) := by decide +kernel
theorem d_X10_isLike_57 : decode prog_12_method_5_code 57 = .ok (.invokevirtual 78, 3) := by decide +kernel
theorem d_X10_isLike_60 : decode prog_12_method_5_code 60 = .ok (.ifCond .eq 7, 3) := by decide +kernel
theorem d_X10_isLike_63 : decode prog_12_method_5_code 63 = .ok (.iconst 1, 1) := by decide +kernel
theorem d_X10_isLike_64 : decode prog_12_method_5_code 64 = .ok (.goto 4, 3) := by decide +kernel
theorem d_X10_isLike_67 : decode prog_12_method_5_code 67 = .ok (.iconst 0, 1) := by decide +kernel
theorem d_X10_isLike_68 : decode prog_12_method_5_code 68 = .ok (.ireturn, 1) := by decide +kernel
theorem d_X10_reachAll_0 : decode prog_12_method_2_code 0 = .ok (.aload_n 0, 1) := by decide +kernel
theorem d_X10_reachAll_1 : decode prog_12_method_2_code 1 = .ok (.getfield 15, 3) := by decide +kernel
theorem d_X10_reachAll_4 : decode prog_12_method_2_code 4 = .ok (.iconst (-1), 1) := by decide +kernel
theorem d_X10_reachAll_5 : decode prog_12_method_2_code 5 = .ok (.invokestatic 18, 3) := by decide +kernel
theorem d_X10_reachAll_8 : decode prog_12_method_2_code 8 = .ok (.aload_n 0, 1) := by decide +kernel
theorem d_X10_reachAll_9 : decode prog_12_method_2_code 9 = .ok (.iconst 0, 1) := by decide +kernel
theorem d_X10_reachAll_10 : decode prog_12_method_2_code 10 = .ok (.putfield 24, 3) := by decide +kernel
theorem d_X10_reachAll_13 : decode prog_12_method_2_code 13 = .ok (.iconst 0, 1) := by decide +kernel
theorem d_X10_reachAll_14 : decode prog_12_method_2_code 14 = .ok (.istore_n 3, 1) := by decide +kernel
theorem d_X10_reachAll_15 : decode prog_12_method_2_code 15 = .ok (.iconst 0, 1) := by decide +kernel
theorem d_X10_reachAll_16 : decode prog_12_method_2_code 16 = .ok (.istore 4, 2) := by decide +kernel
theorem d_X10_reachAll_18 : decode prog_12_method_2_code 18 = .ok (.iload 4, 2) := by decide +kernel
theorem d_X10_reachAll_20 : decode prog_12_method_2_code 20 = .ok (.aload_n 1, 1) := by decide +kernel
theorem d_X10_reachAll_21 : decode prog_12_method_2_code 21 = .ok (.getfield 28, 3) := by decide +kernel
theorem d_X10_reachAll_24 : decode prog_12_method_2_code 24 = .ok (.if_icmp .ge 55, 3) := by decide +kernel
theorem d_X10_reachAll_27 : decode prog_12_method_2_code 27 = .ok (.aload_n 0, 1) := by decide +kernel
theorem d_X10_reachAll_28 : decode prog_12_method_2_code 28 = .ok (.aload_n 1, 1) := by decide +kernel
theorem d_X10_reachAll_29 : decode prog_12_method_2_code 29 = .ok (.iload 4, 2) := by decide +kernel
theorem d_X10_reachAll_31 : decode prog_12_method_2_code 31 = .ok (.invokestatic 33, 3) := by decide +kernel
theorem d_X10_reachAll_34 : decode prog_12_method_2_code 34 = .ok (.invokevirtual 37, 3) := by decide +kernel
theorem d_X10_reachAll_37 : decode prog_12_method_2_code 37 = .ok (.invokevirtual 40, 3) := by decide +kernel
theorem d_X10_reachAll_40 : decode prog_12_method_2_code 40 = .ok (.iload_n 3, 1) := by decide +kernel
theorem d_X10_reachAll_41 : decode prog_12_method_2_code 41 = .ok (.aload_n 0, 1) := by decide +kernel
theorem d_X10_reachAll_42 : decode prog_12_method_2_code 42 = .ok (.getfield 24, 3) := by decide +kernel
theorem d_X10_reachAll_45 : decode prog_12_method_2_code 45 = .ok (.if_icmp .ge 28, 3) := by decide +kernel
theorem d_X10_reachAll_48 : decode prog_12_method_2_code 48 = .ok (.iload_n 3, 1) := by decide +kernel
theorem d_X10_reachAll_49 : decode prog_12_method_2_code 49 = .ok (.sipush 400, 3) := by decide +kernel
theorem d_X10_reachAll_52 : decode prog_12_method_2_code 52 = .ok (.if_icmp .ge 21, 3) := by decide +kernel
theorem d_X10_reachAll_55 : decode prog_12_method_2_code 55 = .ok (.aload_n 0, 1) := by decide +kernel
theorem d_X10_reachAll_56 : decode prog_12_method_2_code 56 = .ok (.aload_n 1, 1) := by decide +kernel
theorem d_X10_reachAll_57 : decode prog_12_method_2_code 57 = .ok (.aload_n 2, 1) := by decide +kernel
theorem d_X10_reachAll_58 : decode prog_12_method_2_code 58 = .ok (.aload_n 0, 1) := by decide +kernel
theorem d_X10_reachAll_59 : decode prog_12_method_2_code 59 = .ok (.getfield 9, 3) := by decide +kernel
theorem d_X10_reachAll_62 : decode prog_12_method_2_code 62 = .ok (.iload_n 3, 1) := by decide +kernel
theorem d_X10_reachAll_63 : decode prog_12_method_2_code 63 = .ok (.iaload, 1) := by decide +kernel
theorem d_X10_reachAll_64 : decode prog_12_method_2_code 64 = .ok (.invokevirtual 44, 3) := by decide +kernel
theorem d_X10_reachAll_67 : decode prog_12_method_2_code 67 = .ok (.iinc 3 1, 3) := by decide +kernel
theorem d_X10_reachAll_70 : decode prog_12_method_2_code 70 = .ok (.goto (-30), 3) := by decide +kernel
theorem d_X10_reachAll_73 : decode prog_12_method_2_code 73 = .ok (.iinc 4 1, 3) := by decide +kernel
theorem d_X10_reachAll_76 : decode prog_12_method_2_code 76 = .ok (.goto (-58), 3) := by decide +kernel
theorem d_X10_reachAll_79 : decode prog_12_method_2_code 79 = .ok (.return_, 1) := by decide +kernel
theorem d_X11_agent_0 : decode prog_1_method_9_code 0 = .ok (.aload_n 0, 1) := by decide +kernel
theorem d_X11_agent_1 : decode prog_1_method_9_code 1 = .ok (.getfield 61, 3) := by decide +kernel
theorem d_X11_agent_4 : decode prog_1_method_9_code 4 = .ok (.getfield 92, 3) := by decide +kernel
theorem d_X11_agent_7 : decode prog_1_method_9_code 7 = .ok (.iload_n 1, 1) := by decide +kernel
theorem d_X11_agent_8 : decode prog_1_method_9_code 8 = .ok (.invokevirtual 174, 3) := by decide +kernel
theorem d_X11_agent_11 : decode prog_1_method_9_code 11 = .ok (.ifCond .eq 17, 3) := by decide +kernel
theorem d_X11_agent_14 : decode prog_1_method_9_code 14 = .ok (.aload_n 0, 1) := by decide +kernel
theorem d_X11_agent_15 : decode prog_1_method_9_code 15 = .ok (.getfield 61, 3) := by decide +kernel
theorem d_X11_agent_18 : decode prog_1_method_9_code 18 = .ok (.getfield 92, 3) := by decide +kernel
theorem d_X11_agent_21 : decode prog_1_method_9_code 21 = .ok (.iload_n 1, 1) := by decide +kernel
theorem d_X11_agent_22 : decode prog_1_method_9_code 22 = .ok (.invokevirtual 175, 3) := by decide +kernel
theorem d_X11_agent_25 : decode prog_1_method_9_code 25 = .ok (.goto 6, 3) := by decide +kernel
theorem d_X11_agent_28 : decode prog_1_method_9_code 28 = .ok (.sipush (-1001), 3) := by decide +kernel
theorem d_X11_agent_31 : decode prog_1_method_9_code 31 = .ok (.ireturn, 1) := by decide +kernel
theorem d_X11_shelfAt_0 : decode prog_1_method_29_code 0 = .ok (.iload_n 1, 1) := by decide +kernel
theorem d_X11_shelfAt_1 : decode prog_1_method_29_code 1 = .ok (.aload_n 0, 1) := by decide +kernel
theorem d_X11_shelfAt_2 : decode prog_1_method_29_code 2 = .ok (.getfield 32, 3) := by decide +kernel
theorem d_X11_shelfAt_5 : decode prog_1_method_29_code 5 = .ok (.arraylength, 1) := by decide +kernel
theorem d_X11_shelfAt_6 : decode prog_1_method_29_code 6 = .ok (.invokestatic 235, 3) := by decide +kernel
theorem d_X11_shelfAt_9 : decode prog_1_method_29_code 9 = .ok (.ifCond .eq 12, 3) := by decide +kernel
theorem d_X11_shelfAt_12 : decode prog_1_method_29_code 12 = .ok (.aload_n 0, 1) := by decide +kernel
theorem d_X11_shelfAt_13 : decode prog_1_method_29_code 13 = .ok (.getfield 32, 3) := by decide +kernel
theorem d_X11_shelfAt_16 : decode prog_1_method_29_code 16 = .ok (.iload_n 1, 1) := by decide +kernel
theorem d_X11_shelfAt_17 : decode prog_1_method_29_code 17 = .ok (.aaload, 1) := by decide +kernel
theorem d_X11_shelfAt_18 : decode prog_1_method_29_code 18 = .ok (.goto 4, 3) := by decide +kernel
theorem d_X11_shelfAt_21 : decode prog_1_method_29_code 21 = .ok (.aconst_null, 1) := by decide +kernel
theorem d_X11_shelfAt_22 : decode prog_1_method_29_code 22 = .ok (.areturn, 1) := by decide +kernel
theorem d_X4_copyFrom_0 : decode prog_6_method_3_code 0 = .ok (.aload_n 1, 1) := by decide +kernel
theorem d_X4_copyFrom_1 : decode prog_6_method_3_code 1 = .ok (.getfield 9, 3) := by decide +kernel
theorem d_X4_copyFrom_4 : decode prog_6_method_3_code 4 = .ok (.iconst 0, 1) := by decide +kernel
theorem d_X4_copyFrom_5 : decode prog_6_method_3_code 5 = .ok (.aload_n 0, 1) := by decide +kernel
theorem d_X4_copyFrom_6 : decode prog_6_method_3_code 6 = .ok (.getfield 9, 3) := by decide +kernel
theorem d_X4_copyFrom_9 : decode prog_6_method_3_code 9 = .ok (.iconst 0, 1) := by decide +kernel
theorem d_X4_copyFrom_10 : decode prog_6_method_3_code 10 = .ok (.sipush 400, 3) := by decide +kernel
theorem d_X4_copyFrom_13 : decode prog_6_method_3_code 13 = .ok (.invokestatic 40, 3) := by decide +kernel
theorem d_X4_copyFrom_16 : decode prog_6_method_3_code 16 = .ok (.aload_n 1, 1) := by decide +kernel
theorem d_X4_copyFrom_17 : decode prog_6_method_3_code 17 = .ok (.getfield 15, 3) := by decide +kernel
theorem d_X4_copyFrom_20 : decode prog_6_method_3_code 20 = .ok (.iconst 0, 1) := by decide +kernel
theorem d_X4_copyFrom_21 : decode prog_6_method_3_code 21 = .ok (.aload_n 0, 1) := by decide +kernel
theorem d_X4_copyFrom_22 : decode prog_6_method_3_code 22 = .ok (.getfield 15, 3) := by decide +kernel
theorem d_X4_copyFrom_25 : decode prog_6_method_3_code 25 = .ok (.iconst 0, 1) := by decide +kernel
theorem d_X4_copyFrom_26 : decode prog_6_method_3_code 26 = .ok (.sipush 3200, 3) := by decide +kernel
theorem d_X4_copyFrom_29 : decode prog_6_method_3_code 29 = .ok (.invokestatic 40, 3) := by decide +kernel
theorem d_X4_copyFrom_32 : decode prog_6_method_3_code 32 = .ok (.aload_n 1, 1) := by decide +kernel
theorem d_X4_copyFrom_33 : decode prog_6_method_3_code 33 = .ok (.getfield 18, 3) := by decide +kernel
theorem d_X4_copyFrom_36 : decode prog_6_method_3_code 36 = .ok (.iconst 0, 1) := by decide +kernel
theorem d_X4_copyFrom_37 : decode prog_6_method_3_code 37 = .ok (.aload_n 0, 1) := by decide +kernel
theorem d_X4_copyFrom_38 : decode prog_6_method_3_code 38 = .ok (.getfield 18, 3) := by decide +kernel
theorem d_X4_copyFrom_41 : decode prog_6_method_3_code 41 = .ok (.iconst 0, 1) := by decide +kernel
theorem d_X4_copyFrom_42 : decode prog_6_method_3_code 42 = .ok (.bipush 8, 2) := by decide +kernel
theorem d_X4_copyFrom_44 : decode prog_6_method_3_code 44 = .ok (.invokestatic 40, 3) := by decide +kernel
theorem d_X4_copyFrom_47 : decode prog_6_method_3_code 47 = .ok (.aload_n 0, 1) := by decide +kernel
theorem d_X4_copyFrom_48 : decode prog_6_method_3_code 48 = .ok (.aload_n 1, 1) := by decide +kernel
theorem d_X4_copyFrom_49 : decode prog_6_method_3_code 49 = .ok (.getfield 27, 3) := by decide +kernel
theorem d_X4_copyFrom_52 : decode prog_6_method_3_code 52 = .ok (.putfield 27, 3) := by decide +kernel
theorem d_X4_copyFrom_55 : decode prog_6_method_3_code 55 = .ok (.aload_n 0, 1) := by decide +kernel
theorem d_X4_copyFrom_56 : decode prog_6_method_3_code 56 = .ok (.aload_n 1, 1) := by decide +kernel
theorem d_X4_copyFrom_57 : decode prog_6_method_3_code 57 = .ok (.getfield 31, 3) := by decide +kernel
theorem d_X4_copyFrom_60 : decode prog_6_method_3_code 60 = .ok (.putfield 31, 3) := by decide +kernel
theorem d_X4_copyFrom_63 : decode prog_6_method_3_code 63 = .ok (.aload_n 0, 1) := by decide +kernel
theorem d_X4_copyFrom_64 : decode prog_6_method_3_code 64 = .ok (.aload_n 1, 1) := by decide +kernel
theorem d_X4_copyFrom_65 : decode prog_6_method_3_code 65 = .ok (.getfield 34, 3) := by decide +kernel
theorem d_X4_copyFrom_68 : decode prog_6_method_3_code 68 = .ok (.putfield 34, 3) := by decide +kernel
theorem d_X4_copyFrom_71 : decode prog_6_method_3_code 71 = .ok (.aload_n 0, 1) := by decide +kernel
theorem d_X4_copyFrom_72 : decode prog_6_method_3_code 72 = .ok (.aload_n 1, 1) := by decide +kernel
theorem d_X4_copyFrom_73 : decode prog_6_method_3_code 73 = .ok (.getfield 37, 3) := by decide +kernel
theorem d_X4_copyFrom_76 : decode prog_6_method_3_code 76 = .ok (.putfield 37, 3) := by decide +kernel
theorem d_X4_copyFrom_79 : decode prog_6_method_3_code 79 = .ok (.return_, 1) := by decide +kernel
theorem d_X11_back_0 : decode prog_1_method_18_code 0 = .ok (.aload_n 0, 1) := by decide +kernel
theorem d_X11_back_1 : decode prog_1_method_18_code 1 = .ok (.iload_n 1, 1) := by decide +kernel
theorem d_X11_back_2 : decode prog_1_method_18_code 2 = .ok (.invokevirtual 208, 3) := by decide +kernel
theorem d_X11_back_5 : decode prog_1_method_18_code 5 = .ok (.astore_n 2, 1) := by decide +kernel
theorem d_X11_back_6 : decode prog_1_method_18_code 6 = .ok (.aload_n 2, 1) := by decide +kernel
theorem d_X11_back_7 : decode prog_1_method_18_code 7 = .ok (.ifnonnull 7, 3) := by decide +kernel
theorem d_X11_back_10 : decode prog_1_method_18_code 10 = .ok (.sipush (-1001), 3) := by decide +kernel
theorem d_X11_back_13 : decode prog_1_method_18_code 13 = .ok (.ireturn, 1) := by decide +kernel
theorem d_X11_back_14 : decode prog_1_method_18_code 14 = .ok (.aload_n 2, 1) := by decide +kernel
theorem d_X11_back_15 : decode prog_1_method_18_code 15 = .ok (.getfield 216, 3) := by decide +kernel
theorem d_X11_back_18 : decode prog_1_method_18_code 18 = .ok (.ifCond .ne 7, 3) := by decide +kernel
theorem d_X11_back_21 : decode prog_1_method_18_code 21 = .ok (.sipush (-1003), 3) := by decide +kernel
theorem d_X11_back_24 : decode prog_1_method_18_code 24 = .ok (.ireturn, 1) := by decide +kernel
theorem d_X11_back_25 : decode prog_1_method_18_code 25 = .ok (.aload_n 0, 1) := by decide +kernel
theorem d_X11_back_26 : decode prog_1_method_18_code 26 = .ok (.getfield 61, 3) := by decide +kernel
theorem d_X11_back_29 : decode prog_1_method_18_code 29 = .ok (.getfield 92, 3) := by decide +kernel
theorem d_X11_back_32 : decode prog_1_method_18_code 32 = .ok (.aload_n 2, 1) := by decide +kernel
theorem d_X11_back_33 : decode prog_1_method_18_code 33 = .ok (.invokevirtual 212, 3) := by decide +kernel
theorem d_X11_back_36 : decode prog_1_method_18_code 36 = .ok (.aload_n 2, 1) := by decide +kernel
theorem d_X11_back_37 : decode prog_1_method_18_code 37 = .ok (.getfield 96, 3) := by decide +kernel
theorem d_X11_back_40 : decode prog_1_method_18_code 40 = .ok (.ireturn, 1) := by decide +kernel
theorem d_X11_choosePair_0 : decode prog_1_method_33_code 0 = .ok (.iload_n 1, 1) := by decide +kernel
theorem d_X11_choosePair_1 : decode prog_1_method_33_code 1 = .ok (.ifCond .ne 12, 3) := by decide +kernel
theorem d_X11_choosePair_4 : decode prog_1_method_33_code 4 = .ok (.aload_n 0, 1) := by decide +kernel
theorem d_X11_choosePair_5 : decode prog_1_method_33_code 5 = .ok (.getfield 61, 3) := by decide +kernel
theorem d_X11_choosePair_8 : decode prog_1_method_33_code 8 = .ok (.iconst 0, 1) := by decide +kernel
theorem d_X11_choosePair_9 : decode prog_1_method_33_code 9 = .ok (.invokevirtual 190, 3) := by decide +kernel
theorem d_X11_choosePair_12 : decode prog_1_method_33_code 12 = .ok (.ireturn, 1) := by decide +kernel
theorem d_X11_choosePair_13 : decode prog_1_method_33_code 13 = .ok (.iload_n 1, 1) := by decide +kernel
theorem d_X11_choosePair_14 : decode prog_1_method_33_code 14 = .ok (.iconst 1, 1) := by decide +kernel
theorem d_X11_choosePair_15 : decode prog_1_method_33_code 15 = .ok (.if_icmp .ne 11, 3) := by decide +kernel
theorem d_X11_choosePair_18 : decode prog_1_method_33_code 18 = .ok (.aload_n 0, 1) := by decide +kernel
theorem d_X11_choosePair_19 : decode prog_1_method_33_code 19 = .ok (.getfield 61, 3) := by decide +kernel
theorem d_X11_choosePair_22 : decode prog_1_method_33_code 22 = .ok (.invokevirtual 263, 3) := by decide +kernel
theorem d_X11_choosePair_25 : decode prog_1_method_33_code 25 = .ok (.ireturn, 1) := by decide +kernel
theorem d_X11_choosePair_26 : decode prog_1_method_33_code 26 = .ok (.aload_n 0, 1) := by decide +kernel
theorem d_X11_choosePair_27 : decode prog_1_method_33_code 27 = .ok (.getfield 61, 3) := by decide +kernel
theorem d_X11_choosePair_30 : decode prog_1_method_33_code 30 = .ok (.iconst 1, 1) := by decide +kernel
theorem d_X11_choosePair_31 : decode prog_1_method_33_code 31 = .ok (.invokevirtual 128, 3) := by decide +kernel
theorem d_X11_choosePair_34 : decode prog_1_method_33_code 34 = .ok (.istore_n 2, 1) := by decide +kernel
theorem d_X11_choosePair_35 : decode prog_1_method_33_code 35 = .ok (.iload_n 2, 1) := by decide +kernel
theorem d_X11_choosePair_36 : decode prog_1_method_33_code 36 = .ok (.ifCond .gt 5, 3) := by decide +kernel
theorem d_X11_choosePair_39 : decode prog_1_method_33_code 39 = .ok (.iconst (-1), 1) := by decide +kernel
theorem d_X11_choosePair_40 : decode prog_1_method_33_code 40 = .ok (.ireturn, 1) := by decide +kernel
theorem d_X11_choosePair_41 : decode prog_1_method_33_code 41 = .ok (.aload_n 0, 1) := by decide +kernel
theorem d_X11_choosePair_42 : decode prog_1_method_33_code 42 = .ok (.aload_n 0, 1) := by decide +kernel
theorem d_X11_choosePair_43 : decode prog_1_method_33_code 43 = .ok (.getfield 65, 3) := by decide +kernel
theorem d_X11_choosePair_46 : decode prog_1_method_33_code 46 = .ok (.ldc2_w 266, 3) := by decide +kernel
theorem d_X11_choosePair_49 : decode prog_1_method_33_code 49 = .ok (.lmul, 1) := by decide +kernel
theorem d_X11_choosePair_50 : decode prog_1_method_33_code 50 = .ok (.ldc2_w 268, 3) := by decide +kernel
theorem d_X11_choosePair_53 : decode prog_1_method_33_code 53 = .ok (.ladd, 1) := by decide +kernel
theorem d_X11_choosePair_54 : decode prog_1_method_33_code 54 = .ok (.putfield 65, 3) := by decide +kernel
theorem d_X11_choosePair_57 : decode prog_1_method_33_code 57 = .ok (.aload_n 0, 1) := by decide +kernel
theorem d_X11_choosePair_58 : decode prog_1_method_33_code 58 = .ok (.getfield 61, 3) := by decide +kernel
theorem d_X11_choosePair_61 : decode prog_1_method_33_code 61 = .ok (.aload_n 0, 1) := by decide +kernel
theorem d_X11_choosePair_62 : decode prog_1_method_33_code 62 = .ok (.getfield 65, 3) := by decide +kernel
theorem d_X11_choosePair_65 : decode prog_1_method_33_code 65 = .ok (.bipush 33, 2) := by decide +kernel
theorem d_X11_choosePair_67 : decode prog_1_method_33_code 67 = .ok (.lushr, 1) := by decide +kernel
theorem d_X11_choosePair_68 : decode prog_1_method_33_code 68 = .ok (.iload_n 2, 1) := by decide +kernel
theorem d_X11_choosePair_69 : decode prog_1_method_33_code 69 = .ok (.i2l, 1) := by decide +kernel
theorem d_X11_choosePair_70 : decode prog_1_method_33_code 70 = .ok (.lrem, 1) := by decide +kernel
theorem d_X11_choosePair_71 : decode prog_1_method_33_code 71 = .ok (.l2i, 1) := by decide +kernel
theorem d_X11_choosePair_72 : decode prog_1_method_33_code 72 = .ok (.invokevirtual 190, 3) := by decide +kernel
theorem d_X11_choosePair_75 : decode prog_1_method_33_code 75 = .ok (.ireturn, 1) := by decide +kernel
theorem d_X11_count_0 : decode prog_1_method_6_code 0 = .ok (.iload_n 1, 1) := by decide +kernel
theorem d_X11_count_1 : decode prog_1_method_6_code 1 = .ok (.tableswitch 203 0 12 #[67, 78, 89, 100, 111, 122, 131, 140, 155, 163, 171, 179, 195], 67) := by decide +kernel
theorem d_X11_count_68 : decode prog_1_method_6_code 68 = .ok (.aload_n 0, 1) := by decide +kernel
theorem d_X11_count_69 : decode prog_1_method_6_code 69 = .ok (.getfield 61, 3) := by decide +kernel
theorem d_X11_count_72 : decode prog_1_method_6_code 72 = .ok (.getfield 108, 3) := by decide +kernel
theorem d_X11_count_75 : decode prog_1_method_6_code 75 = .ok (.getfield 112, 3) := by decide +kernel
theorem d_X11_count_78 : decode prog_1_method_6_code 78 = .ok (.ireturn, 1) := by decide +kernel
theorem d_X11_count_79 : decode prog_1_method_6_code 79 = .ok (.aload_n 0, 1) := by decide +kernel
theorem d_X11_count_80 : decode prog_1_method_6_code 80 = .ok (.getfield 61, 3) := by decide +kernel
theorem d_X11_count_83 : decode prog_1_method_6_code 83 = .ok (.getfield 115, 3) := by decide +kernel
theorem d_X11_count_86 : decode prog_1_method_6_code 86 = .ok (.getfield 119, 3) := by decide +kernel
theorem d_X11_count_89 : decode prog_1_method_6_code 89 = .ok (.ireturn, 1) := by decide +kernel
theorem d_X11_count_90 : decode prog_1_method_6_code 90 = .ok (.aload_n 0, 1) := by decide +kernel
theorem d_X11_count_91 : decode prog_1_method_6_code 91 = .ok (.getfield 61, 3) := by decide +kernel
theorem d_X11_count_94 : decode prog_1_method_6_code 94 = .ok (.getfield 92, 3) := by decide +kernel
theorem d_X11_count_97 : decode prog_1_method_6_code 97 = .ok (.getfield 96, 3) := by decide +kernel
theorem d_X11_count_100 : decode prog_1_method_6_code 100 = .ok (.ireturn, 1) := by decide +kernel
theorem d_X11_count_101 : decode prog_1_method_6_code 101 = .ok (.aload_n 0, 1) := by decide +kernel
theorem d_X11_count_102 : decode prog_1_method_6_code 102 = .ok (.getfield 61, 3) := by decide +kernel
theorem d_X11_count_105 : decode prog_1_method_6_code 105 = .ok (.getfield 92, 3) := by decide +kernel
theorem d_X11_count_108 : decode prog_1_method_6_code 108 = .ok (.getfield 122, 3) := by decide +kernel
theorem d_X11_count_111 : decode prog_1_method_6_code 111 = .ok (.ireturn, 1) := by decide +kernel
theorem d_X11_count_112 : decode prog_1_method_6_code 112 = .ok (.aload_n 0, 1) := by decide +kernel
theorem d_X11_count_113 : decode prog_1_method_6_code 113 = .ok (.getfield 61, 3) := by decide +kernel
theorem d_X11_count_116 : decode prog_1_method_6_code 116 = .ok (.getfield 92, 3) := by decide +kernel
theorem d_X11_count_119 : decode prog_1_method_6_code 119 = .ok (.getfield 125, 3) := by decide +kernel
theorem d_X11_count_122 : decode prog_1_method_6_code 122 = .ok (.ireturn, 1) := by decide +kernel
theorem d_X11_count_123 : decode prog_1_method_6_code 123 = .ok (.aload_n 0, 1) := by decide +kernel
theorem d_X11_count_124 : decode prog_1_method_6_code 124 = .ok (.getfield 61, 3) := by decide +kernel
theorem d_X11_count_127 : decode prog_1_method_6_code 127 = .ok (.iconst 1, 1) := by decide +kernel
theorem d_X11_count_128 : decode prog_1_method_6_code 128 = .ok (.invokevirtual 128, 3) := by decide +kernel
theorem d_X11_count_131 : decode prog_1_method_6_code 131 = .ok (.ireturn, 1) := by decide +kernel
theorem d_X11_count_132 : decode prog_1_method_6_code 132 = .ok (.aload_n 0, 1) := by decide +kernel
theorem d_X11_count_133 : decode prog_1_method_6_code 133 = .ok (.getfield 61, 3) := by decide +kernel
theorem d_X11_count_136 : decode prog_1_method_6_code 136 = .ok (.iconst 0, 1) := by decide +kernel
theorem d_X11_count_137 : decode prog_1_method_6_code 137 = .ok (.invokevirtual 128, 3) := by decide +kernel
theorem d_X11_count_140 : decode prog_1_method_6_code 140 = .ok (.ireturn, 1) := by decide +kernel
theorem d_X11_count_141 : decode prog_1_method_6_code 141 = .ok (.aload_n 0, 1) := by decide +kernel
theorem d_X11_count_142 : decode prog_1_method_6_code 142 = .ok (.getfield 44, 3) := by decide +kernel
theorem d_X11_count_145 : decode prog_1_method_6_code 145 = .ok (.aload_n 0, 1) := by decide +kernel
theorem d_X11_count_146 : decode prog_1_method_6_code 146 = .ok (.getfield 61, 3) := by decide +kernel
theorem d_X11_count_149 : decode prog_1_method_6_code 149 = .ok (.getfield 92, 3) := by decide +kernel
theorem d_X11_count_152 : decode prog_1_method_6_code 152 = .ok (.invokevirtual 132, 3) := by decide +kernel
theorem d_X11_count_155 : decode prog_1_method_6_code 155 = .ok (.ireturn, 1) := by decide +kernel
theorem d_X11_count_156 : decode prog_1_method_6_code 156 = .ok (.aload_n 0, 1) := by decide +kernel
theorem d_X11_count_157 : decode prog_1_method_6_code 157 = .ok (.getfield 26, 3) := by decide +kernel
theorem d_X11_count_160 : decode prog_1_method_6_code 160 = .ok (.getfield 136, 3) := by decide +kernel
theorem d_X11_count_163 : decode prog_1_method_6_code 163 = .ok (.ireturn, 1) := by decide +kernel
theorem d_X11_count_164 : decode prog_1_method_6_code 164 = .ok (.aload_n 0, 1) := by decide +kernel
theorem d_X11_count_165 : decode prog_1_method_6_code 165 = .ok (.getfield 26, 3) := by decide +kernel
theorem d_X11_count_168 : decode prog_1_method_6_code 168 = .ok (.getfield 139, 3) := by decide +kernel
theorem d_X11_count_171 : decode prog_1_method_6_code 171 = .ok (.ireturn, 1) := by decide +kernel
theorem d_X11_count_172 : decode prog_1_method_6_code 172 = .ok (.aload_n 0, 1) := by decide +kernel
theorem d_X11_count_173 : decode prog_1_method_6_code 173 = .ok (.getfield 26, 3) := by decide +kernel
theorem d_X11_count_176 : decode prog_1_method_6_code 176 = .ok (.getfield 142, 3) := by decide +kernel
theorem d_X11_count_179 : decode prog_1_method_6_code 179 = .ok (.ireturn, 1) := by decide +kernel
theorem d_X11_count_180 : decode prog_1_method_6_code 180 = .ok (.aload_n 0, 1) := by decide +kernel
theorem d_X11_count_181 : decode prog_1_method_6_code 181 = .ok (.getfield 26, 3) := by decide +kernel
theorem d_X11_count_184 : decode prog_1_method_6_code 184 = .ok (.getfield 145, 3) := by decide +kernel
theorem d_X11_count_187 : decode prog_1_method_6_code 187 = .ok (.ifCond .eq 7, 3) := by decide +kernel
theorem d_X11_count_190 : decode prog_1_method_6_code 190 = .ok (.iconst 1, 1) := by decide +kernel
theorem d_X11_count_191 : decode prog_1_method_6_code 191 = .ok (.goto 4, 3) := by decide +kernel
theorem d_X11_count_194 : decode prog_1_method_6_code 194 = .ok (.iconst 0, 1) := by decide +kernel
theorem d_X11_count_195 : decode prog_1_method_6_code 195 = .ok (.ireturn, 1) := by decide +kernel
theorem d_X11_count_196 : decode prog_1_method_6_code 196 = .ok (.aload_n 0, 1) := by decide +kernel
theorem d_X11_count_197 : decode prog_1_method_6_code 197 = .ok (.getfield 54, 3) := by decide +kernel
theorem d_X11_count_200 : decode prog_1_method_6_code 200 = .ok (.getfield 149, 3) := by decide +kernel
theorem d_X11_count_203 : decode prog_1_method_6_code 203 = .ok (.ireturn, 1) := by decide +kernel
theorem d_X11_count_204 : decode prog_1_method_6_code 204 = .ok (.sipush (-1002), 3) := by decide +kernel
theorem d_X11_count_207 : decode prog_1_method_6_code 207 = .ok (.ireturn, 1) := by decide +kernel
theorem d_X11_cut_0 : decode prog_1_method_3_code 0 = .ok (.aload_n 0, 1) := by decide +kernel
theorem d_X11_cut_1 : decode prog_1_method_3_code 1 = .ok (.getfield 12, 3) := by decide +kernel
theorem d_X11_cut_4 : decode prog_1_method_3_code 4 = .ok (.getfield 69, 3) := by decide +kernel
theorem d_X11_cut_7 : decode prog_1_method_3_code 7 = .ok (.astore_n 2, 1) := by decide +kernel
theorem d_X11_cut_8 : decode prog_1_method_3_code 8 = .ok (.iload_n 1, 1) := by decide +kernel
theorem d_X11_cut_9 : decode prog_1_method_3_code 9 = .ok (.ifCond .lt 11, 3) := by decide +kernel
theorem d_X11_cut_12 : decode prog_1_method_3_code 12 = .ok (.iload_n 1, 1) := by decide +kernel
theorem d_X11_cut_13 : decode prog_1_method_3_code 13 = .ok (.aload_n 2, 1) := by decide +kernel
theorem d_X11_cut_14 : decode prog_1_method_3_code 14 = .ok (.getfield 83, 3) := by decide +kernel
theorem d_X11_cut_17 : decode prog_1_method_3_code 17 = .ok (.if_icmp .le 7, 3) := by decide +kernel
theorem d_X11_cut_20 : decode prog_1_method_3_code 20 = .ok (.sipush (-1002), 3) := by decide +kernel
theorem d_X11_cut_23 : decode prog_1_method_3_code 23 = .ok (.ireturn, 1) := by decide +kernel
theorem d_X11_cut_24 : decode prog_1_method_3_code 24 = .ok (.aload_n 2, 1) := by decide +kernel
theorem d_X11_cut_25 : decode prog_1_method_3_code 25 = .ok (.getfield 83, 3) := by decide +kernel
theorem d_X11_cut_28 : decode prog_1_method_3_code 28 = .ok (.iload_n 1, 1) := by decide +kernel
theorem d_X11_cut_29 : decode prog_1_method_3_code 29 = .ok (.isub, 1) := by decide +kernel
theorem d_X11_cut_30 : decode prog_1_method_3_code 30 = .ok (.istore_n 3, 1) := by decide +kernel
theorem d_X11_cut_31 : decode prog_1_method_3_code 31 = .ok (.aload_n 2, 1) := by decide +kernel
theorem d_X11_cut_32 : decode prog_1_method_3_code 32 = .ok (.iload_n 1, 1) := by decide +kernel
theorem d_X11_cut_33 : decode prog_1_method_3_code 33 = .ok (.putfield 83, 3) := by decide +kernel
theorem d_X11_cut_36 : decode prog_1_method_3_code 36 = .ok (.iload_n 3, 1) := by decide +kernel
theorem d_X11_cut_37 : decode prog_1_method_3_code 37 = .ok (.ireturn, 1) := by decide +kernel
theorem d_X11_draw_0 : decode prog_1_method_15_code 0 = .ok (.aload_n 0, 1) := by decide +kernel
theorem d_X11_draw_1 : decode prog_1_method_15_code 1 = .ok (.iload_n 1, 1) := by decide +kernel
theorem d_X11_draw_2 : decode prog_1_method_15_code 2 = .ok (.i2l, 1) := by decide +kernel
theorem d_X11_draw_3 : decode prog_1_method_15_code 3 = .ok (.putfield 65, 3) := by decide +kernel
theorem d_X11_draw_6 : decode prog_1_method_15_code 6 = .ok (.iconst 1, 1) := by decide +kernel
theorem d_X11_draw_7 : decode prog_1_method_15_code 7 = .ok (.ireturn, 1) := by decide +kernel
theorem d_X11_emptyShelves_0 : decode prog_1_method_30_code 0 = .ok (.iconst 0, 1) := by decide +kernel
theorem d_X11_emptyShelves_1 : decode prog_1_method_30_code 1 = .ok (.istore_n 1, 1) := by decide +kernel
theorem d_X11_emptyShelves_2 : decode prog_1_method_30_code 2 = .ok (.iload_n 1, 1) := by decide +kernel
theorem d_X11_emptyShelves_3 : decode prog_1_method_30_code 3 = .ok (.iconst 4, 1) := by decide +kernel
theorem d_X11_emptyShelves_4 : decode prog_1_method_30_code 4 = .ok (.if_icmp .ge 24, 3) := by decide +kernel
theorem d_X11_emptyShelves_7 : decode prog_1_method_30_code 7 = .ok (.aload_n 0, 1) := by decide +kernel
theorem d_X11_emptyShelves_8 : decode prog_1_method_30_code 8 = .ok (.iload_n 1, 1) := by decide +kernel
theorem d_X11_emptyShelves_9 : decode prog_1_method_30_code 9 = .ok (.invokevirtual 208, 3) := by decide +kernel
theorem d_X11_emptyShelves_12 : decode prog_1_method_30_code 12 = .ok (.astore_n 2, 1) := by decide +kernel
theorem d_X11_emptyShelves_13 : decode prog_1_method_30_code 13 = .ok (.aload_n 2, 1) := by decide +kernel
theorem d_X11_emptyShelves_14 : decode prog_1_method_30_code 14 = .ok (.ifnull 8, 3) := by decide +kernel
theorem d_X11_emptyShelves_17 : decode prog_1_method_30_code 17 = .ok (.aload_n 2, 1) := by decide +kernel
theorem d_X11_emptyShelves_18 : decode prog_1_method_30_code 18 = .ok (.iconst 0, 1) := by decide +kernel
theorem d_X11_emptyShelves_19 : decode prog_1_method_30_code 19 = .ok (.putfield 216, 3) := by decide +kernel
theorem d_X11_emptyShelves_22 : decode prog_1_method_30_code 22 = .ok (.iinc 1 1, 3) := by decide +kernel
theorem d_X11_emptyShelves_25 : decode prog_1_method_30_code 25 = .ok (.goto (-23), 3) := by decide +kernel
theorem d_X11_emptyShelves_28 : decode prog_1_method_30_code 28 = .ok (.return_, 1) := by decide +kernel
theorem d_X4_hasEnd_0 : decode prog_6_method_5_code 0 = .ok (.iload_n 1, 1) := by decide +kernel
theorem d_X4_hasEnd_1 : decode prog_6_method_5_code 1 = .ok (.aload_n 0, 1) := by decide +kernel
theorem d_X4_hasEnd_2 : decode prog_6_method_5_code 2 = .ok (.getfield 31, 3) := by decide +kernel
theorem d_X4_hasEnd_5 : decode prog_6_method_5_code 5 = .ok (.invokestatic 46, 3) := by decide +kernel
theorem d_X4_hasEnd_8 : decode prog_6_method_5_code 8 = .ok (.ireturn, 1) := by decide +kernel
theorem d_X11_end_0 : decode prog_1_method_11_code 0 = .ok (.aload_n 0, 1) := by decide +kernel
theorem d_X11_end_1 : decode prog_1_method_11_code 1 = .ok (.getfield 61, 3) := by decide +kernel
theorem d_X11_end_4 : decode prog_1_method_11_code 4 = .ok (.getfield 92, 3) := by decide +kernel
theorem d_X11_end_7 : decode prog_1_method_11_code 7 = .ok (.iload_n 1, 1) := by decide +kernel
theorem d_X11_end_8 : decode prog_1_method_11_code 8 = .ok (.invokevirtual 184, 3) := by decide +kernel
theorem d_X11_end_11 : decode prog_1_method_11_code 11 = .ok (.ifCond .eq 20, 3) := by decide +kernel
theorem d_X11_end_14 : decode prog_1_method_11_code 14 = .ok (.aload_n 0, 1) := by decide +kernel
theorem d_X11_end_15 : decode prog_1_method_11_code 15 = .ok (.getfield 61, 3) := by decide +kernel
theorem d_X11_end_18 : decode prog_1_method_11_code 18 = .ok (.getfield 92, 3) := by decide +kernel
theorem d_X11_end_21 : decode prog_1_method_11_code 21 = .ok (.iload_n 1, 1) := by decide +kernel
theorem d_X11_end_22 : decode prog_1_method_11_code 22 = .ok (.invokestatic 187, 3) := by decide +kernel
theorem d_X11_end_25 : decode prog_1_method_11_code 25 = .ok (.invokevirtual 181, 3) := by decide +kernel
theorem d_X11_end_28 : decode prog_1_method_11_code 28 = .ok (.goto 6, 3) := by decide +kernel
theorem d_X11_end_31 : decode prog_1_method_11_code 31 = .ok (.sipush (-1001), 3) := by decide +kernel
theorem d_X11_end_34 : decode prog_1_method_11_code 34 = .ok (.ireturn, 1) := by decide +kernel
theorem d_X9_append_0 : decode prog_11_method_3_code 0 = .ok (.bipush 24, 2) := by decide +kernel
theorem d_X9_append_2 : decode prog_11_method_3_code 2 = .ok (.istore_n 2, 1) := by decide +kernel
theorem d_X9_append_3 : decode prog_11_method_3_code 3 = .ok (.iload_n 2, 1) := by decide +kernel
theorem d_X9_append_4 : decode prog_11_method_3_code 4 = .ok (.ifCond .lt 42, 3) := by decide +kernel
theorem d_X9_append_7 : decode prog_11_method_3_code 7 = .ok (.aload_n 0, 1) := by decide +kernel
theorem d_X9_append_8 : decode prog_11_method_3_code 8 = .ok (.getfield 26, 3) := by decide +kernel
theorem d_X9_append_11 : decode prog_11_method_3_code 11 = .ok (.sipush 4000, 3) := by decide +kernel
theorem d_X9_append_14 : decode prog_11_method_3_code 14 = .ok (.if_icmp .ge 32, 3) := by decide +kernel
theorem d_X9_append_17 : decode prog_11_method_3_code 17 = .ok (.aload_n 0, 1) := by decide +kernel
theorem d_X9_append_18 : decode prog_11_method_3_code 18 = .ok (.getfield 9, 3) := by decide +kernel
theorem d_X9_append_21 : decode prog_11_method_3_code 21 = .ok (.aload_n 0, 1) := by decide +kernel
theorem d_X9_append_22 : decode prog_11_method_3_code 22 = .ok (.getfield 26, 3) := by decide +kernel
theorem d_X9_append_25 : decode prog_11_method_3_code 25 = .ok (.iload_n 1, 1) := by decide +kernel
theorem d_X9_append_26 : decode prog_11_method_3_code 26 = .ok (.iload_n 2, 1) := by decide +kernel
theorem d_X9_append_27 : decode prog_11_method_3_code 27 = .ok (.iushr, 1) := by decide +kernel
theorem d_X9_append_28 : decode prog_11_method_3_code 28 = .ok (.i2b, 1) := by decide +kernel
theorem d_X9_append_29 : decode prog_11_method_3_code 29 = .ok (.bastore, 1) := by decide +kernel
theorem d_X9_append_30 : decode prog_11_method_3_code 30 = .ok (.aload_n 0, 1) := by decide +kernel
theorem d_X9_append_31 : decode prog_11_method_3_code 31 = .ok (.dup, 1) := by decide +kernel
theorem d_X9_append_32 : decode prog_11_method_3_code 32 = .ok (.getfield 26, 3) := by decide +kernel
theorem d_X9_append_35 : decode prog_11_method_3_code 35 = .ok (.iconst 1, 1) := by decide +kernel
theorem d_X9_append_36 : decode prog_11_method_3_code 36 = .ok (.iadd, 1) := by decide +kernel
theorem d_X9_append_37 : decode prog_11_method_3_code 37 = .ok (.putfield 26, 3) := by decide +kernel
theorem d_X9_append_40 : decode prog_11_method_3_code 40 = .ok (.iinc 2 (-8), 3) := by decide +kernel
theorem d_X9_append_43 : decode prog_11_method_3_code 43 = .ok (.goto (-40), 3) := by decide +kernel
theorem d_X9_append_46 : decode prog_11_method_3_code 46 = .ok (.return_, 1) := by decide +kernel
theorem d_X9_hasRoom_0 : decode prog_11_method_2_code 0 = .ok (.aload_n 0, 1) := by decide +kernel
theorem d_X9_hasRoom_1 : decode prog_11_method_2_code 1 = .ok (.getfield 26, 3) := by decide +kernel
theorem d_X9_hasRoom_4 : decode prog_11_method_2_code 4 = .ok (.iload_n 1, 1) := by decide +kernel
theorem d_X9_hasRoom_5 : decode prog_11_method_2_code 5 = .ok (.iadd, 1) := by decide +kernel
theorem d_X9_hasRoom_6 : decode prog_11_method_2_code 6 = .ok (.sipush 4000, 3) := by decide +kernel
theorem d_X9_hasRoom_9 : decode prog_11_method_2_code 9 = .ok (.if_icmp .gt 7, 3) := by decide +kernel
theorem d_X9_hasRoom_12 : decode prog_11_method_2_code 12 = .ok (.iconst 1, 1) := by decide +kernel
theorem d_X9_hasRoom_13 : decode prog_11_method_2_code 13 = .ok (.goto 4, 3) := by decide +kernel
theorem d_X9_hasRoom_16 : decode prog_11_method_2_code 16 = .ok (.iconst 0, 1) := by decide +kernel
theorem d_X9_hasRoom_17 : decode prog_11_method_2_code 17 = .ok (.ireturn, 1) := by decide +kernel
theorem d_X11_feed_0 : decode prog_1_method_2_code 0 = .ok (.aload_n 0, 1) := by decide +kernel
theorem d_X11_feed_1 : decode prog_1_method_2_code 1 = .ok (.getfield 12, 3) := by decide +kernel
theorem d_X11_feed_4 : decode prog_1_method_2_code 4 = .ok (.getfield 69, 3) := by decide +kernel
theorem d_X11_feed_7 : decode prog_1_method_2_code 7 = .ok (.astore 6, 2) := by decide +kernel
theorem d_X11_feed_9 : decode prog_1_method_2_code 9 = .ok (.aload 6, 2) := by decide +kernel
theorem d_X11_feed_11 : decode prog_1_method_2_code 11 = .ok (.bipush 20, 2) := by decide +kernel
theorem d_X11_feed_13 : decode prog_1_method_2_code 13 = .ok (.invokevirtual 73, 3) := by decide +kernel
theorem d_X11_feed_16 : decode prog_1_method_2_code 16 = .ok (.ifCond .ne 7, 3) := by decide +kernel
theorem d_X11_feed_19 : decode prog_1_method_2_code 19 = .ok (.sipush (-1004), 3) := by decide +kernel
theorem d_X11_feed_22 : decode prog_1_method_2_code 22 = .ok (.ireturn, 1) := by decide +kernel
theorem d_X11_feed_23 : decode prog_1_method_2_code 23 = .ok (.aload 6, 2) := by decide +kernel
theorem d_X11_feed_25 : decode prog_1_method_2_code 25 = .ok (.iload_n 1, 1) := by decide +kernel
theorem d_X11_feed_26 : decode prog_1_method_2_code 26 = .ok (.invokevirtual 79, 3) := by decide +kernel
theorem d_X11_feed_29 : decode prog_1_method_2_code 29 = .ok (.aload 6, 2) := by decide +kernel
theorem d_X11_feed_31 : decode prog_1_method_2_code 31 = .ok (.iload_n 2, 1) := by decide +kernel
theorem d_X11_feed_32 : decode prog_1_method_2_code 32 = .ok (.invokevirtual 79, 3) := by decide +kernel
theorem d_X11_feed_35 : decode prog_1_method_2_code 35 = .ok (.aload 6, 2) := by decide +kernel
theorem d_X11_feed_37 : decode prog_1_method_2_code 37 = .ok (.iload_n 3, 1) := by decide +kernel
theorem d_X11_feed_38 : decode prog_1_method_2_code 38 = .ok (.invokevirtual 79, 3) := by decide +kernel
theorem d_X11_feed_41 : decode prog_1_method_2_code 41 = .ok (.aload 6, 2) := by decide +kernel
theorem d_X11_feed_43 : decode prog_1_method_2_code 43 = .ok (.iload 4, 2) := by decide +kernel
theorem d_X11_feed_45 : decode prog_1_method_2_code 45 = .ok (.invokevirtual 79, 3) := by decide +kernel
theorem d_X11_feed_48 : decode prog_1_method_2_code 48 = .ok (.aload 6, 2) := by decide +kernel
theorem d_X11_feed_50 : decode prog_1_method_2_code 50 = .ok (.iload 5, 2) := by decide +kernel
theorem d_X11_feed_52 : decode prog_1_method_2_code 52 = .ok (.invokevirtual 79, 3) := by decide +kernel
theorem d_X11_feed_55 : decode prog_1_method_2_code 55 = .ok (.aload 6, 2) := by decide +kernel
theorem d_X11_feed_57 : decode prog_1_method_2_code 57 = .ok (.getfield 83, 3) := by decide +kernel
theorem d_X11_feed_60 : decode prog_1_method_2_code 60 = .ok (.ireturn, 1) := by decide +kernel
theorem d_X11_keep_0 : decode prog_1_method_17_code 0 = .ok (.aload_n 0, 1) := by decide +kernel
theorem d_X11_keep_1 : decode prog_1_method_17_code 1 = .ok (.iload_n 1, 1) := by decide +kernel
theorem d_X11_keep_2 : decode prog_1_method_17_code 2 = .ok (.invokevirtual 208, 3) := by decide +kernel
theorem d_X11_keep_5 : decode prog_1_method_17_code 5 = .ok (.astore_n 2, 1) := by decide +kernel
theorem d_X11_keep_6 : decode prog_1_method_17_code 6 = .ok (.aload_n 2, 1) := by decide +kernel
theorem d_X11_keep_7 : decode prog_1_method_17_code 7 = .ok (.ifnonnull 7, 3) := by decide +kernel
theorem d_X11_keep_10 : decode prog_1_method_17_code 10 = .ok (.sipush (-1001), 3) := by decide +kernel
theorem d_X11_keep_13 : decode prog_1_method_17_code 13 = .ok (.ireturn, 1) := by decide +kernel
theorem d_X11_keep_14 : decode prog_1_method_17_code 14 = .ok (.aload_n 2, 1) := by decide +kernel
theorem d_X11_keep_15 : decode prog_1_method_17_code 15 = .ok (.aload_n 0, 1) := by decide +kernel
theorem d_X11_keep_16 : decode prog_1_method_17_code 16 = .ok (.getfield 61, 3) := by decide +kernel
theorem d_X11_keep_19 : decode prog_1_method_17_code 19 = .ok (.getfield 92, 3) := by decide +kernel
theorem d_X11_keep_22 : decode prog_1_method_17_code 22 = .ok (.invokevirtual 212, 3) := by decide +kernel
theorem d_X11_keep_25 : decode prog_1_method_17_code 25 = .ok (.aload_n 2, 1) := by decide +kernel
theorem d_X11_keep_26 : decode prog_1_method_17_code 26 = .ok (.iconst 1, 1) := by decide +kernel
theorem d_X11_keep_27 : decode prog_1_method_17_code 27 = .ok (.putfield 216, 3) := by decide +kernel
theorem d_X11_keep_30 : decode prog_1_method_17_code 30 = .ok (.aload_n 2, 1) := by decide +kernel
theorem d_X11_keep_31 : decode prog_1_method_17_code 31 = .ok (.getfield 96, 3) := by decide +kernel
theorem d_X11_keep_34 : decode prog_1_method_17_code 34 = .ok (.ireturn, 1) := by decide +kernel
theorem d_X3_has_0 : decode prog_5_method_2_code 0 = .ok (.iload_n 1, 1) := by decide +kernel
theorem d_X3_has_1 : decode prog_5_method_2_code 1 = .ok (.ifCond .lt 21, 3) := by decide +kernel
theorem d_X3_has_4 : decode prog_5_method_2_code 4 = .ok (.iload_n 1, 1) := by decide +kernel
theorem d_X3_has_5 : decode prog_5_method_2_code 5 = .ok (.aload_n 0, 1) := by decide +kernel
theorem d_X3_has_6 : decode prog_5_method_2_code 6 = .ok (.getfield 22, 3) := by decide +kernel
theorem d_X3_has_9 : decode prog_5_method_2_code 9 = .ok (.if_icmp .ge 13, 3) := by decide +kernel
theorem d_X3_has_12 : decode prog_5_method_2_code 12 = .ok (.iload_n 1, 1) := by decide +kernel
theorem d_X3_has_13 : decode prog_5_method_2_code 13 = .ok (.bipush 16, 2) := by decide +kernel
theorem d_X3_has_15 : decode prog_5_method_2_code 15 = .ok (.if_icmp .ge 7, 3) := by decide +kernel
theorem d_X3_has_18 : decode prog_5_method_2_code 18 = .ok (.iconst 1, 1) := by decide +kernel
theorem d_X3_has_19 : decode prog_5_method_2_code 19 = .ok (.goto 4, 3) := by decide +kernel
theorem d_X3_has_22 : decode prog_5_method_2_code 22 = .ok (.iconst 0, 1) := by decide +kernel
theorem d_X3_has_23 : decode prog_5_method_2_code 23 = .ok (.ireturn, 1) := by decide +kernel
theorem d_X3_hasPort_0 : decode prog_5_method_9_code 0 = .ok (.iload_n 2, 1) := by decide +kernel
theorem d_X3_hasPort_1 : decode prog_5_method_9_code 1 = .ok (.ifCond .lt 16, 3) := by decide +kernel
theorem d_X3_hasPort_4 : decode prog_5_method_9_code 4 = .ok (.iload_n 2, 1) := by decide +kernel
theorem d_X3_hasPort_5 : decode prog_5_method_9_code 5 = .ok (.aload_n 0, 1) := by decide +kernel
theorem d_X3_hasPort_6 : decode prog_5_method_9_code 6 = .ok (.iload_n 1, 1) := by decide +kernel
theorem d_X3_hasPort_7 : decode prog_5_method_9_code 7 = .ok (.invokevirtual 34, 3) := by decide +kernel
theorem d_X3_hasPort_10 : decode prog_5_method_9_code 10 = .ok (.if_icmp .ge 7, 3) := by decide +kernel
theorem d_X3_hasPort_13 : decode prog_5_method_9_code 13 = .ok (.iconst 1, 1) := by decide +kernel
theorem d_X3_hasPort_14 : decode prog_5_method_9_code 14 = .ok (.goto 4, 3) := by decide +kernel
theorem d_X3_hasPort_17 : decode prog_5_method_9_code 17 = .ok (.iconst 0, 1) := by decide +kernel
theorem d_X3_hasPort_18 : decode prog_5_method_9_code 18 = .ok (.ireturn, 1) := by decide +kernel
theorem d_X3_sortOf_0 : decode prog_5_method_10_code 0 = .ok (.iload_n 1, 1) := by decide +kernel
theorem d_X3_sortOf_1 : decode prog_5_method_10_code 1 = .ok (.ifCond .lt 22, 3) := by decide +kernel
theorem d_X3_sortOf_4 : decode prog_5_method_10_code 4 = .ok (.iload_n 1, 1) := by decide +kernel
theorem d_X3_sortOf_5 : decode prog_5_method_10_code 5 = .ok (.bipush 16, 2) := by decide +kernel
theorem d_X3_sortOf_7 : decode prog_5_method_10_code 7 = .ok (.if_icmp .ge 16, 3) := by decide +kernel
theorem d_X3_sortOf_10 : decode prog_5_method_10_code 10 = .ok (.iload_n 2, 1) := by decide +kernel
theorem d_X3_sortOf_11 : decode prog_5_method_10_code 11 = .ok (.ifCond .lt 12, 3) := by decide +kernel
theorem d_X3_sortOf_14 : decode prog_5_method_10_code 14 = .ok (.iload_n 2, 1) := by decide +kernel
theorem d_X3_sortOf_15 : decode prog_5_method_10_code 15 = .ok (.iconst 5, 1) := by decide +kernel
theorem d_X3_sortOf_16 : decode prog_5_method_10_code 16 = .ok (.if_icmp .ge 7, 3) := by decide +kernel
theorem d_X3_sortOf_19 : decode prog_5_method_10_code 19 = .ok (.iconst 1, 1) := by decide +kernel
theorem d_X3_sortOf_20 : decode prog_5_method_10_code 20 = .ok (.goto 4, 3) := by decide +kernel
theorem d_X3_sortOf_23 : decode prog_5_method_10_code 23 = .ok (.iconst 0, 1) := by decide +kernel
theorem d_X3_sortOf_24 : decode prog_5_method_10_code 24 = .ok (.istore_n 3, 1) := by decide +kernel
theorem d_X3_sortOf_25 : decode prog_5_method_10_code 25 = .ok (.iload_n 3, 1) := by decide +kernel
theorem d_X3_sortOf_26 : decode prog_5_method_10_code 26 = .ok (.ifCond .eq 16, 3) := by decide +kernel
theorem d_X3_sortOf_29 : decode prog_5_method_10_code 29 = .ok (.aload_n 0, 1) := by decide +kernel
theorem d_X3_sortOf_30 : decode prog_5_method_10_code 30 = .ok (.getfield 19, 3) := by decide +kernel
theorem d_X3_sortOf_33 : decode prog_5_method_10_code 33 = .ok (.iload_n 1, 1) := by decide +kernel
theorem d_X3_sortOf_34 : decode prog_5_method_10_code 34 = .ok (.iconst 5, 1) := by decide +kernel
theorem d_X3_sortOf_35 : decode prog_5_method_10_code 35 = .ok (.imul, 1) := by decide +kernel
theorem d_X3_sortOf_36 : decode prog_5_method_10_code 36 = .ok (.iload_n 2, 1) := by decide +kernel
theorem d_X3_sortOf_37 : decode prog_5_method_10_code 37 = .ok (.iadd, 1) := by decide +kernel
theorem d_X3_sortOf_38 : decode prog_5_method_10_code 38 = .ok (.iaload, 1) := by decide +kernel
theorem d_X3_sortOf_39 : decode prog_5_method_10_code 39 = .ok (.goto 4, 3) := by decide +kernel
theorem d_X3_sortOf_42 : decode prog_5_method_10_code 42 = .ok (.iconst 0, 1) := by decide +kernel
theorem d_X3_sortOf_43 : decode prog_5_method_10_code 43 = .ok (.ireturn, 1) := by decide +kernel
theorem d_X11_kind_0 : decode prog_1_method_7_code 0 = .ok (.aload_n 0, 1) := by decide +kernel
theorem d_X11_kind_1 : decode prog_1_method_7_code 1 = .ok (.getfield 61, 3) := by decide +kernel
theorem d_X11_kind_4 : decode prog_1_method_7_code 4 = .ok (.getfield 108, 3) := by decide +kernel
theorem d_X11_kind_7 : decode prog_1_method_7_code 7 = .ok (.iload_n 1, 1) := by decide +kernel
theorem d_X11_kind_8 : decode prog_1_method_7_code 8 = .ok (.invokevirtual 150, 3) := by decide +kernel
theorem d_X11_kind_11 : decode prog_1_method_7_code 11 = .ok (.ifCond .ne 7, 3) := by decide +kernel
theorem d_X11_kind_14 : decode prog_1_method_7_code 14 = .ok (.sipush (-1001), 3) := by decide +kernel
theorem d_X11_kind_17 : decode prog_1_method_7_code 17 = .ok (.ireturn, 1) := by decide +kernel
theorem d_X11_kind_18 : decode prog_1_method_7_code 18 = .ok (.iload_n 2, 1) := by decide +kernel
theorem d_X11_kind_19 : decode prog_1_method_7_code 19 = .ok (.ifCond .lt 9, 3) := by decide +kernel
theorem d_X11_kind_22 : decode prog_1_method_7_code 22 = .ok (.iload_n 2, 1) := by decide +kernel
theorem d_X11_kind_23 : decode prog_1_method_7_code 23 = .ok (.bipush 6, 2) := by decide +kernel
theorem d_X11_kind_25 : decode prog_1_method_7_code 25 = .ok (.if_icmp .le 7, 3) := by decide +kernel
theorem d_X11_kind_28 : decode prog_1_method_7_code 28 = .ok (.sipush (-1002), 3) := by decide +kernel
theorem d_X11_kind_31 : decode prog_1_method_7_code 31 = .ok (.ireturn, 1) := by decide +kernel
theorem d_X11_kind_32 : decode prog_1_method_7_code 32 = .ok (.iload_n 2, 1) := by decide +kernel
theorem d_X11_kind_33 : decode prog_1_method_7_code 33 = .ok (.ifCond .ne 15, 3) := by decide +kernel
theorem d_X11_kind_36 : decode prog_1_method_7_code 36 = .ok (.aload_n 0, 1) := by decide +kernel
theorem d_X11_kind_37 : decode prog_1_method_7_code 37 = .ok (.getfield 61, 3) := by decide +kernel
theorem d_X11_kind_40 : decode prog_1_method_7_code 40 = .ok (.getfield 108, 3) := by decide +kernel
theorem d_X11_kind_43 : decode prog_1_method_7_code 43 = .ok (.iload_n 1, 1) := by decide +kernel
theorem d_X11_kind_44 : decode prog_1_method_7_code 44 = .ok (.invokevirtual 153, 3) := by decide +kernel
theorem d_X11_kind_47 : decode prog_1_method_7_code 47 = .ok (.ireturn, 1) := by decide +kernel
theorem d_X11_kind_48 : decode prog_1_method_7_code 48 = .ok (.iload_n 2, 1) := by decide +kernel
theorem d_X11_kind_49 : decode prog_1_method_7_code 49 = .ok (.iconst 1, 1) := by decide +kernel
theorem d_X11_kind_50 : decode prog_1_method_7_code 50 = .ok (.if_icmp .ne 15, 3) := by decide +kernel
theorem d_X11_kind_53 : decode prog_1_method_7_code 53 = .ok (.aload_n 0, 1) := by decide +kernel
theorem d_X11_kind_54 : decode prog_1_method_7_code 54 = .ok (.getfield 61, 3) := by decide +kernel
theorem d_X11_kind_57 : decode prog_1_method_7_code 57 = .ok (.getfield 92, 3) := by decide +kernel
theorem d_X11_kind_60 : decode prog_1_method_7_code 60 = .ok (.iload_n 1, 1) := by decide +kernel
theorem d_X11_kind_61 : decode prog_1_method_7_code 61 = .ok (.invokevirtual 157, 3) := by decide +kernel
theorem d_X11_kind_64 : decode prog_1_method_7_code 64 = .ok (.ireturn, 1) := by decide +kernel
theorem d_X11_kind_65 : decode prog_1_method_7_code 65 = .ok (.aload_n 0, 1) := by decide +kernel
theorem d_X11_kind_66 : decode prog_1_method_7_code 66 = .ok (.getfield 61, 3) := by decide +kernel
theorem d_X11_kind_69 : decode prog_1_method_7_code 69 = .ok (.getfield 108, 3) := by decide +kernel
theorem d_X11_kind_72 : decode prog_1_method_7_code 72 = .ok (.iload_n 1, 1) := by decide +kernel
theorem d_X11_kind_73 : decode prog_1_method_7_code 73 = .ok (.iload_n 2, 1) := by decide +kernel
theorem d_X11_kind_74 : decode prog_1_method_7_code 74 = .ok (.iconst 2, 1) := by decide +kernel
theorem d_X11_kind_75 : decode prog_1_method_7_code 75 = .ok (.isub, 1) := by decide +kernel
theorem d_X11_kind_76 : decode prog_1_method_7_code 76 = .ok (.invokevirtual 160, 3) := by decide +kernel
theorem d_X11_kind_79 : decode prog_1_method_7_code 79 = .ok (.ifCond .eq 20, 3) := by decide +kernel
theorem d_X11_kind_82 : decode prog_1_method_7_code 82 = .ok (.aload_n 0, 1) := by decide +kernel
theorem d_X11_kind_83 : decode prog_1_method_7_code 83 = .ok (.getfield 61, 3) := by decide +kernel
theorem d_X11_kind_86 : decode prog_1_method_7_code 86 = .ok (.getfield 108, 3) := by decide +kernel
theorem d_X11_kind_89 : decode prog_1_method_7_code 89 = .ok (.iload_n 1, 1) := by decide +kernel
theorem d_X11_kind_90 : decode prog_1_method_7_code 90 = .ok (.iload_n 2, 1) := by decide +kernel
theorem d_X11_kind_91 : decode prog_1_method_7_code 91 = .ok (.iconst 2, 1) := by decide +kernel
theorem d_X11_kind_92 : decode prog_1_method_7_code 92 = .ok (.isub, 1) := by decide +kernel
theorem d_X11_kind_93 : decode prog_1_method_7_code 93 = .ok (.invokevirtual 164, 3) := by decide +kernel
theorem d_X11_kind_96 : decode prog_1_method_7_code 96 = .ok (.goto 5, 3) := by decide +kernel
theorem d_X11_kind_99 : decode prog_1_method_7_code 99 = .ok (.bipush (-100), 2) := by decide +kernel
theorem d_X11_kind_101 : decode prog_1_method_7_code 101 = .ok (.ireturn, 1) := by decide +kernel
theorem d_X11_like_0 : decode prog_1_method_19_code 0 = .ok (.aload_n 0, 1) := by decide +kernel
theorem d_X11_like_1 : decode prog_1_method_19_code 1 = .ok (.iload_n 1, 1) := by decide +kernel
theorem d_X11_like_2 : decode prog_1_method_19_code 2 = .ok (.invokevirtual 208, 3) := by decide +kernel
theorem d_X11_like_5 : decode prog_1_method_19_code 5 = .ok (.astore_n 2, 1) := by decide +kernel
theorem d_X11_like_6 : decode prog_1_method_19_code 6 = .ok (.aload_n 2, 1) := by decide +kernel
theorem d_X11_like_7 : decode prog_1_method_19_code 7 = .ok (.ifnonnull 7, 3) := by decide +kernel
theorem d_X11_like_10 : decode prog_1_method_19_code 10 = .ok (.sipush (-1001), 3) := by decide +kernel
theorem d_X11_like_13 : decode prog_1_method_19_code 13 = .ok (.ireturn, 1) := by decide +kernel
theorem d_X11_like_14 : decode prog_1_method_19_code 14 = .ok (.aload_n 2, 1) := by decide +kernel
theorem d_X11_like_15 : decode prog_1_method_19_code 15 = .ok (.getfield 216, 3) := by decide +kernel
theorem d_X11_like_18 : decode prog_1_method_19_code 18 = .ok (.ifCond .ne 7, 3) := by decide +kernel
theorem d_X11_like_21 : decode prog_1_method_19_code 21 = .ok (.sipush (-1003), 3) := by decide +kernel
theorem d_X11_like_24 : decode prog_1_method_19_code 24 = .ok (.ireturn, 1) := by decide +kernel
theorem d_X11_like_25 : decode prog_1_method_19_code 25 = .ok (.aload_n 0, 1) := by decide +kernel
theorem d_X11_like_26 : decode prog_1_method_19_code 26 = .ok (.getfield 44, 3) := by decide +kernel
theorem d_X11_like_29 : decode prog_1_method_19_code 29 = .ok (.aload_n 0, 1) := by decide +kernel
theorem d_X11_like_30 : decode prog_1_method_19_code 30 = .ok (.getfield 61, 3) := by decide +kernel
theorem d_X11_like_33 : decode prog_1_method_19_code 33 = .ok (.getfield 92, 3) := by decide +kernel
theorem d_X11_like_36 : decode prog_1_method_19_code 36 = .ok (.aload_n 0, 1) := by decide +kernel
theorem d_X11_like_37 : decode prog_1_method_19_code 37 = .ok (.getfield 61, 3) := by decide +kernel
theorem d_X11_like_40 : decode prog_1_method_19_code 40 = .ok (.getfield 108, 3) := by decide +kernel
theorem d_X11_like_43 : decode prog_1_method_19_code 43 = .ok (.invokevirtual 219, 3) := by decide +kernel
theorem d_X11_like_46 : decode prog_1_method_19_code 46 = .ok (.aload_n 0, 1) := by decide +kernel
theorem d_X11_like_47 : decode prog_1_method_19_code 47 = .ok (.getfield 48, 3) := by decide +kernel
theorem d_X11_like_50 : decode prog_1_method_19_code 50 = .ok (.aload_n 2, 1) := by decide +kernel
theorem d_X11_like_51 : decode prog_1_method_19_code 51 = .ok (.aload_n 0, 1) := by decide +kernel
theorem d_X11_like_52 : decode prog_1_method_19_code 52 = .ok (.getfield 61, 3) := by decide +kernel
theorem d_X11_like_55 : decode prog_1_method_19_code 55 = .ok (.getfield 108, 3) := by decide +kernel
theorem d_X11_like_58 : decode prog_1_method_19_code 58 = .ok (.invokevirtual 219, 3) := by decide +kernel
theorem d_X11_like_61 : decode prog_1_method_19_code 61 = .ok (.aload_n 0, 1) := by decide +kernel
theorem d_X11_like_62 : decode prog_1_method_19_code 62 = .ok (.getfield 44, 3) := by decide +kernel
theorem d_X11_like_65 : decode prog_1_method_19_code 65 = .ok (.aload_n 0, 1) := by decide +kernel
theorem d_X11_like_66 : decode prog_1_method_19_code 66 = .ok (.getfield 61, 3) := by decide +kernel
theorem d_X11_like_69 : decode prog_1_method_19_code 69 = .ok (.getfield 92, 3) := by decide +kernel
theorem d_X11_like_72 : decode prog_1_method_19_code 72 = .ok (.aload_n 0, 1) := by decide +kernel
theorem d_X11_like_73 : decode prog_1_method_19_code 73 = .ok (.getfield 48, 3) := by decide +kernel
theorem d_X11_like_76 : decode prog_1_method_19_code 76 = .ok (.aload_n 2, 1) := by decide +kernel
theorem d_X11_like_77 : decode prog_1_method_19_code 77 = .ok (.aload_n 0, 1) := by decide +kernel
theorem d_X11_like_78 : decode prog_1_method_19_code 78 = .ok (.getfield 61, 3) := by decide +kernel
theorem d_X11_like_81 : decode prog_1_method_19_code 81 = .ok (.getfield 108, 3) := by decide +kernel
theorem d_X11_like_84 : decode prog_1_method_19_code 84 = .ok (.invokevirtual 223, 3) := by decide +kernel
theorem d_X11_like_87 : decode prog_1_method_19_code 87 = .ok (.ifCond .eq 7, 3) := by decide +kernel
theorem d_X11_like_90 : decode prog_1_method_19_code 90 = .ok (.iconst 1, 1) := by decide +kernel
theorem d_X11_like_91 : decode prog_1_method_19_code 91 = .ok (.goto 4, 3) := by decide +kernel
theorem d_X11_like_94 : decode prog_1_method_19_code 94 = .ok (.iconst 0, 1) := by decide +kernel
theorem d_X11_like_95 : decode prog_1_method_19_code 95 = .ok (.ireturn, 1) := by decide +kernel
theorem d_X5_byteAt_0 : decode prog_7_method_2_code 0 = .ok (.iload_n 1, 1) := by decide +kernel
theorem d_X5_byteAt_1 : decode prog_7_method_2_code 1 = .ok (.aload_n 0, 1) := by decide +kernel
theorem d_X5_byteAt_2 : decode prog_7_method_2_code 2 = .ok (.getfield 15, 3) := by decide +kernel
theorem d_X5_byteAt_5 : decode prog_7_method_2_code 5 = .ok (.invokestatic 19, 3) := by decide +kernel
theorem d_X5_byteAt_8 : decode prog_7_method_2_code 8 = .ok (.ifCond .eq 23, 3) := by decide +kernel
theorem d_X5_byteAt_11 : decode prog_7_method_2_code 11 = .ok (.iload_n 1, 1) := by decide +kernel
theorem d_X5_byteAt_12 : decode prog_7_method_2_code 12 = .ok (.sipush 4000, 3) := by decide +kernel
theorem d_X5_byteAt_15 : decode prog_7_method_2_code 15 = .ok (.if_icmp .ge 16, 3) := by decide +kernel
theorem d_X5_byteAt_18 : decode prog_7_method_2_code 18 = .ok (.aload_n 0, 1) := by decide +kernel
theorem d_X5_byteAt_19 : decode prog_7_method_2_code 19 = .ok (.getfield 9, 3) := by decide +kernel
theorem d_X5_byteAt_22 : decode prog_7_method_2_code 22 = .ok (.iload_n 1, 1) := by decide +kernel
theorem d_X5_byteAt_23 : decode prog_7_method_2_code 23 = .ok (.baload, 1) := by decide +kernel
theorem d_X5_byteAt_24 : decode prog_7_method_2_code 24 = .ok (.sipush 255, 3) := by decide +kernel
theorem d_X5_byteAt_27 : decode prog_7_method_2_code 27 = .ok (.iand, 1) := by decide +kernel
theorem d_X5_byteAt_28 : decode prog_7_method_2_code 28 = .ok (.goto 4, 3) := by decide +kernel
theorem d_X5_byteAt_31 : decode prog_7_method_2_code 31 = .ok (.iconst (-1), 1) := by decide +kernel
theorem d_X5_byteAt_32 : decode prog_7_method_2_code 32 = .ok (.ireturn, 1) := by decide +kernel
theorem d_X11_out_0 : decode prog_1_method_22_code 0 = .ok (.aload_n 0, 1) := by decide +kernel
theorem d_X11_out_1 : decode prog_1_method_22_code 1 = .ok (.getfield 54, 3) := by decide +kernel
theorem d_X11_out_4 : decode prog_1_method_22_code 4 = .ok (.iload_n 1, 1) := by decide +kernel
theorem d_X11_out_5 : decode prog_1_method_22_code 5 = .ok (.invokevirtual 232, 3) := by decide +kernel
theorem d_X11_out_8 : decode prog_1_method_22_code 8 = .ok (.ireturn, 1) := by decide +kernel
theorem d_X11_pair_0 : decode prog_1_method_12_code 0 = .ok (.aload_n 0, 1) := by decide +kernel
theorem d_X11_pair_1 : decode prog_1_method_12_code 1 = .ok (.getfield 61, 3) := by decide +kernel
theorem d_X11_pair_4 : decode prog_1_method_12_code 4 = .ok (.iload_n 1, 1) := by decide +kernel
theorem d_X11_pair_5 : decode prog_1_method_12_code 5 = .ok (.invokevirtual 190, 3) := by decide +kernel
theorem d_X11_pair_8 : decode prog_1_method_12_code 8 = .ok (.ireturn, 1) := by decide +kernel
theorem d_X11_place_0 : decode prog_1_method_5_code 0 = .ok (.aload_n 0, 1) := by decide +kernel
theorem d_X11_place_1 : decode prog_1_method_5_code 1 = .ok (.getfield 12, 3) := by decide +kernel
theorem d_X11_place_4 : decode prog_1_method_5_code 4 = .ok (.getfield 105, 3) := by decide +kernel
theorem d_X11_place_7 : decode prog_1_method_5_code 7 = .ok (.ireturn, 1) := by decide +kernel
theorem d_X5_put_0 : decode prog_7_method_3_code 0 = .ok (.aload_n 0, 1) := by decide +kernel
theorem d_X5_put_1 : decode prog_7_method_3_code 1 = .ok (.getfield 15, 3) := by decide +kernel
theorem d_X5_put_4 : decode prog_7_method_3_code 4 = .ok (.sipush 4000, 3) := by decide +kernel
theorem d_X5_put_7 : decode prog_7_method_3_code 7 = .ok (.if_icmp .ge 24, 3) := by decide +kernel
theorem d_X5_put_10 : decode prog_7_method_3_code 10 = .ok (.aload_n 0, 1) := by decide +kernel
theorem d_X5_put_11 : decode prog_7_method_3_code 11 = .ok (.getfield 9, 3) := by decide +kernel
theorem d_X5_put_14 : decode prog_7_method_3_code 14 = .ok (.aload_n 0, 1) := by decide +kernel
theorem d_X5_put_15 : decode prog_7_method_3_code 15 = .ok (.getfield 15, 3) := by decide +kernel
theorem d_X5_put_18 : decode prog_7_method_3_code 18 = .ok (.iload_n 1, 1) := by decide +kernel
theorem d_X5_put_19 : decode prog_7_method_3_code 19 = .ok (.i2b, 1) := by decide +kernel
theorem d_X5_put_20 : decode prog_7_method_3_code 20 = .ok (.bastore, 1) := by decide +kernel
theorem d_X5_put_21 : decode prog_7_method_3_code 21 = .ok (.aload_n 0, 1) := by decide +kernel
theorem d_X5_put_22 : decode prog_7_method_3_code 22 = .ok (.dup, 1) := by decide +kernel
theorem d_X5_put_23 : decode prog_7_method_3_code 23 = .ok (.getfield 15, 3) := by decide +kernel
theorem d_X5_put_26 : decode prog_7_method_3_code 26 = .ok (.iconst 1, 1) := by decide +kernel
theorem d_X5_put_27 : decode prog_7_method_3_code 27 = .ok (.iadd, 1) := by decide +kernel
theorem d_X5_put_28 : decode prog_7_method_3_code 28 = .ok (.putfield 15, 3) := by decide +kernel
theorem d_X5_put_31 : decode prog_7_method_3_code 31 = .ok (.return_, 1) := by decide +kernel
theorem d_X3_nameOf_0 : decode prog_5_method_8_code 0 = .ok (.aload_n 0, 1) := by decide +kernel
theorem d_X3_nameOf_1 : decode prog_5_method_8_code 1 = .ok (.iload_n 1, 1) := by decide +kernel
theorem d_X3_nameOf_2 : decode prog_5_method_8_code 2 = .ok (.invokevirtual 30, 3) := by decide +kernel
theorem d_X3_nameOf_5 : decode prog_5_method_8_code 5 = .ok (.ifCond .eq 12, 3) := by decide +kernel
theorem d_X3_nameOf_8 : decode prog_5_method_8_code 8 = .ok (.aload_n 0, 1) := by decide +kernel
theorem d_X3_nameOf_9 : decode prog_5_method_8_code 9 = .ok (.getfield 9, 3) := by decide +kernel
theorem d_X3_nameOf_12 : decode prog_5_method_8_code 12 = .ok (.iload_n 1, 1) := by decide +kernel
theorem d_X3_nameOf_13 : decode prog_5_method_8_code 13 = .ok (.laload, 1) := by decide +kernel
theorem d_X3_nameOf_14 : decode prog_5_method_8_code 14 = .ok (.goto 4, 3) := by decide +kernel
theorem d_X3_nameOf_17 : decode prog_5_method_8_code 17 = .ok (.lconst 0, 1) := by decide +kernel
theorem d_X3_nameOf_18 : decode prog_5_method_8_code 18 = .ok (.lreturn, 1) := by decide +kernel
theorem d_X5_putName_0 : decode prog_7_method_6_code 0 = .ok (.bipush 56, 2) := by decide +kernel
theorem d_X5_putName_2 : decode prog_7_method_6_code 2 = .ok (.istore_n 3, 1) := by decide +kernel
theorem d_X5_putName_3 : decode prog_7_method_6_code 3 = .ok (.iload_n 3, 1) := by decide +kernel
theorem d_X5_putName_4 : decode prog_7_method_6_code 4 = .ok (.ifCond .lt 30, 3) := by decide +kernel
theorem d_X5_putName_7 : decode prog_7_method_6_code 7 = .ok (.lload_n 1, 1) := by decide +kernel
theorem d_X5_putName_8 : decode prog_7_method_6_code 8 = .ok (.iload_n 3, 1) := by decide +kernel
theorem d_X5_putName_9 : decode prog_7_method_6_code 9 = .ok (.lushr, 1) := by decide +kernel
theorem d_X5_putName_10 : decode prog_7_method_6_code 10 = .ok (.l2i, 1) := by decide +kernel
theorem d_X5_putName_11 : decode prog_7_method_6_code 11 = .ok (.sipush 255, 3) := by decide +kernel
theorem d_X5_putName_14 : decode prog_7_method_6_code 14 = .ok (.iand, 1) := by decide +kernel
theorem d_X5_putName_15 : decode prog_7_method_6_code 15 = .ok (.istore 4, 2) := by decide +kernel
theorem d_X5_putName_17 : decode prog_7_method_6_code 17 = .ok (.iload 4, 2) := by decide +kernel
theorem d_X5_putName_19 : decode prog_7_method_6_code 19 = .ok (.ifCond .eq 9, 3) := by decide +kernel
theorem d_X5_putName_22 : decode prog_7_method_6_code 22 = .ok (.aload_n 0, 1) := by decide +kernel
theorem d_X5_putName_23 : decode prog_7_method_6_code 23 = .ok (.iload 4, 2) := by decide +kernel
theorem d_X5_putName_25 : decode prog_7_method_6_code 25 = .ok (.invokevirtual 23, 3) := by decide +kernel
theorem d_X5_putName_28 : decode prog_7_method_6_code 28 = .ok (.iinc 3 (-8), 3) := by decide +kernel
theorem d_X5_putName_31 : decode prog_7_method_6_code 31 = .ok (.goto (-28), 3) := by decide +kernel
theorem d_X5_putName_34 : decode prog_7_method_6_code 34 = .ok (.return_, 1) := by decide +kernel
theorem d_X5_putAgent_0 : decode prog_7_method_5_code 0 = .ok (.aload_n 1, 1) := by decide +kernel
theorem d_X5_putAgent_1 : decode prog_7_method_5_code 1 = .ok (.getfield 41, 3) := by decide +kernel
theorem d_X5_putAgent_4 : decode prog_7_method_5_code 4 = .ok (.iload_n 2, 1) := by decide +kernel
theorem d_X5_putAgent_5 : decode prog_7_method_5_code 5 = .ok (.invokevirtual 47, 3) := by decide +kernel
theorem d_X5_putAgent_8 : decode prog_7_method_5_code 8 = .ok (.istore 4, 2) := by decide +kernel
theorem d_X5_putAgent_10 : decode prog_7_method_5_code 10 = .ok (.aload_n 0, 1) := by decide +kernel
theorem d_X5_putAgent_11 : decode prog_7_method_5_code 11 = .ok (.aload_n 1, 1) := by decide +kernel
theorem d_X5_putAgent_12 : decode prog_7_method_5_code 12 = .ok (.getfield 52, 3) := by decide +kernel
theorem d_X5_putAgent_15 : decode prog_7_method_5_code 15 = .ok (.iload 4, 2) := by decide +kernel
theorem d_X5_putAgent_17 : decode prog_7_method_5_code 17 = .ok (.invokevirtual 56, 3) := by decide +kernel
theorem d_X5_putAgent_20 : decode prog_7_method_5_code 20 = .ok (.invokevirtual 62, 3) := by decide +kernel
theorem d_X5_putAgent_23 : decode prog_7_method_5_code 23 = .ok (.aload_n 1, 1) := by decide +kernel
theorem d_X5_putAgent_24 : decode prog_7_method_5_code 24 = .ok (.getfield 52, 3) := by decide +kernel
theorem d_X5_putAgent_27 : decode prog_7_method_5_code 27 = .ok (.iload 4, 2) := by decide +kernel
theorem d_X5_putAgent_29 : decode prog_7_method_5_code 29 = .ok (.invokevirtual 66, 3) := by decide +kernel
theorem d_X5_putAgent_32 : decode prog_7_method_5_code 32 = .ok (.istore 5, 2) := by decide +kernel
theorem d_X5_putAgent_34 : decode prog_7_method_5_code 34 = .ok (.iconst 1, 1) := by decide +kernel
theorem d_X5_putAgent_35 : decode prog_7_method_5_code 35 = .ok (.istore 6, 2) := by decide +kernel
theorem d_X5_putAgent_37 : decode prog_7_method_5_code 37 = .ok (.iload 6, 2) := by decide +kernel
theorem d_X5_putAgent_39 : decode prog_7_method_5_code 39 = .ok (.iload 5, 2) := by decide +kernel
theorem d_X5_putAgent_41 : decode prog_7_method_5_code 41 = .ok (.if_icmp .ge 47, 3) := by decide +kernel
theorem d_X5_putAgent_44 : decode prog_7_method_5_code 44 = .ok (.aload_n 0, 1) := by decide +kernel
theorem d_X5_putAgent_45 : decode prog_7_method_5_code 45 = .ok (.iload 6, 2) := by decide +kernel
theorem d_X5_putAgent_47 : decode prog_7_method_5_code 47 = .ok (.iconst 1, 1) := by decide +kernel
theorem d_X5_putAgent_48 : decode prog_7_method_5_code 48 = .ok (.if_icmp .ne 8, 3) := by decide +kernel
theorem d_X5_putAgent_51 : decode prog_7_method_5_code 51 = .ok (.bipush 40, 2) := by decide +kernel
theorem d_X5_putAgent_53 : decode prog_7_method_5_code 53 = .ok (.goto 5, 3) := by decide +kernel
theorem d_X5_putAgent_56 : decode prog_7_method_5_code 56 = .ok (.bipush 44, 2) := by decide +kernel
theorem d_X5_putAgent_58 : decode prog_7_method_5_code 58 = .ok (.invokevirtual 23, 3) := by decide +kernel
theorem d_X5_putAgent_61 : decode prog_7_method_5_code 61 = .ok (.aload_n 0, 1) := by decide +kernel
theorem d_X5_putAgent_62 : decode prog_7_method_5_code 62 = .ok (.aload_n 1, 1) := by decide +kernel
theorem d_X5_putAgent_63 : decode prog_7_method_5_code 63 = .ok (.aload_n 1, 1) := by decide +kernel
theorem d_X5_putAgent_64 : decode prog_7_method_5_code 64 = .ok (.getfield 41, 3) := by decide +kernel
theorem d_X5_putAgent_67 : decode prog_7_method_5_code 67 = .ok (.iload_n 2, 1) := by decide +kernel
theorem d_X5_putAgent_68 : decode prog_7_method_5_code 68 = .ok (.iload 6, 2) := by decide +kernel
theorem d_X5_putAgent_70 : decode prog_7_method_5_code 70 = .ok (.invokestatic 69, 3) := by decide +kernel
theorem d_X5_putAgent_73 : decode prog_7_method_5_code 73 = .ok (.invokevirtual 73, 3) := by decide +kernel
theorem d_X5_putAgent_76 : decode prog_7_method_5_code 76 = .ok (.iload_n 3, 1) := by decide +kernel
theorem d_X5_putAgent_77 : decode prog_7_method_5_code 77 = .ok (.iconst 1, 1) := by decide +kernel
theorem d_X5_putAgent_78 : decode prog_7_method_5_code 78 = .ok (.iadd, 1) := by decide +kernel
theorem d_X5_putAgent_79 : decode prog_7_method_5_code 79 = .ok (.invokevirtual 76, 3) := by decide +kernel
theorem d_X5_putAgent_82 : decode prog_7_method_5_code 82 = .ok (.iinc 6 1, 3) := by decide +kernel
theorem d_X5_putAgent_85 : decode prog_7_method_5_code 85 = .ok (.goto (-48), 3) := by decide +kernel
theorem d_X5_putAgent_88 : decode prog_7_method_5_code 88 = .ok (.iload 5, 2) := by decide +kernel
theorem d_X5_putAgent_90 : decode prog_7_method_5_code 90 = .ok (.iconst 1, 1) := by decide +kernel
theorem d_X5_putAgent_91 : decode prog_7_method_5_code 91 = .ok (.if_icmp .le 9, 3) := by decide +kernel
theorem d_X5_putAgent_94 : decode prog_7_method_5_code 94 = .ok (.aload_n 0, 1) := by decide +kernel
theorem d_X5_putAgent_95 : decode prog_7_method_5_code 95 = .ok (.bipush 41, 2) := by decide +kernel
theorem d_X5_putAgent_97 : decode prog_7_method_5_code 97 = .ok (.invokevirtual 23, 3) := by decide +kernel
theorem d_X5_putAgent_100 : decode prog_7_method_5_code 100 = .ok (.return_, 1) := by decide +kernel
theorem d_X5_putTree_0 : decode prog_7_method_4_code 0 = .ok (.iload_n 2, 1) := by decide +kernel
theorem d_X5_putTree_1 : decode prog_7_method_4_code 1 = .ok (.ifCond .ge 23, 3) := by decide +kernel
theorem d_X5_putTree_4 : decode prog_7_method_4_code 4 = .ok (.aload_n 0, 1) := by decide +kernel
theorem d_X5_putTree_5 : decode prog_7_method_4_code 5 = .ok (.bipush 35, 2) := by decide +kernel
theorem d_X5_putTree_7 : decode prog_7_method_4_code 7 = .ok (.invokevirtual 23, 3) := by decide +kernel
theorem d_X5_putTree_10 : decode prog_7_method_4_code 10 = .ok (.aload_n 0, 1) := by decide +kernel
theorem d_X5_putTree_11 : decode prog_7_method_4_code 11 = .ok (.bipush 48, 2) := by decide +kernel
theorem d_X5_putTree_13 : decode prog_7_method_4_code 13 = .ok (.iload_n 2, 1) := by decide +kernel
theorem d_X5_putTree_14 : decode prog_7_method_4_code 14 = .ok (.invokestatic 27, 3) := by decide +kernel
theorem d_X5_putTree_17 : decode prog_7_method_4_code 17 = .ok (.iadd, 1) := by decide +kernel
theorem d_X5_putTree_18 : decode prog_7_method_4_code 18 = .ok (.invokevirtual 23, 3) := by decide +kernel
theorem d_X5_putTree_21 : decode prog_7_method_4_code 21 = .ok (.goto 44, 3) := by decide +kernel
theorem d_X5_putTree_24 : decode prog_7_method_4_code 24 = .ok (.iload_n 2, 1) := by decide +kernel
theorem d_X5_putTree_25 : decode prog_7_method_4_code 25 = .ok (.invokestatic 31, 3) := by decide +kernel
theorem d_X5_putTree_28 : decode prog_7_method_4_code 28 = .ok (.ifCond .eq 12, 3) := by decide +kernel
theorem d_X5_putTree_31 : decode prog_7_method_4_code 31 = .ok (.aload_n 0, 1) := by decide +kernel
theorem d_X5_putTree_32 : decode prog_7_method_4_code 32 = .ok (.bipush 64, 2) := by decide +kernel
theorem d_X5_putTree_34 : decode prog_7_method_4_code 34 = .ok (.invokevirtual 23, 3) := by decide +kernel
theorem d_X5_putTree_37 : decode prog_7_method_4_code 37 = .ok (.goto 28, 3) := by decide +kernel
theorem d_X5_putTree_40 : decode prog_7_method_4_code 40 = .ok (.iload_n 3, 1) := by decide +kernel
theorem d_X5_putTree_41 : decode prog_7_method_4_code 41 = .ok (.bipush 40, 2) := by decide +kernel
theorem d_X5_putTree_43 : decode prog_7_method_4_code 43 = .ok (.if_icmp .lt 12, 3) := by decide +kernel
theorem d_X5_putTree_46 : decode prog_7_method_4_code 46 = .ok (.aload_n 0, 1) := by decide +kernel
theorem d_X5_putTree_47 : decode prog_7_method_4_code 47 = .ok (.bipush 126, 2) := by decide +kernel
theorem d_X5_putTree_49 : decode prog_7_method_4_code 49 = .ok (.invokevirtual 23, 3) := by decide +kernel
theorem d_X5_putTree_52 : decode prog_7_method_4_code 52 = .ok (.goto 13, 3) := by decide +kernel
theorem d_X5_putTree_55 : decode prog_7_method_4_code 55 = .ok (.aload_n 0, 1) := by decide +kernel
theorem d_X5_putTree_56 : decode prog_7_method_4_code 56 = .ok (.aload_n 1, 1) := by decide +kernel
theorem d_X5_putTree_57 : decode prog_7_method_4_code 57 = .ok (.iload_n 2, 1) := by decide +kernel
theorem d_X5_putTree_58 : decode prog_7_method_4_code 58 = .ok (.invokestatic 34, 3) := by decide +kernel
theorem d_X5_putTree_61 : decode prog_7_method_4_code 61 = .ok (.iload_n 3, 1) := by decide +kernel
theorem d_X5_putTree_62 : decode prog_7_method_4_code 62 = .ok (.invokevirtual 37, 3) := by decide +kernel
theorem d_X5_putTree_65 : decode prog_7_method_4_code 65 = .ok (.return_, 1) := by decide +kernel
theorem d_X11_print_0 : decode prog_1_method_21_code 0 = .ok (.aload_n 0, 1) := by decide +kernel
theorem d_X11_print_1 : decode prog_1_method_21_code 1 = .ok (.getfield 61, 3) := by decide +kernel
theorem d_X11_print_4 : decode prog_1_method_21_code 4 = .ok (.getfield 92, 3) := by decide +kernel
theorem d_X11_print_7 : decode prog_1_method_21_code 7 = .ok (.iload_n 1, 1) := by decide +kernel
theorem d_X11_print_8 : decode prog_1_method_21_code 8 = .ok (.invokevirtual 184, 3) := by decide +kernel
theorem d_X11_print_11 : decode prog_1_method_21_code 11 = .ok (.ifCond .ne 7, 3) := by decide +kernel
theorem d_X11_print_14 : decode prog_1_method_21_code 14 = .ok (.sipush (-1001), 3) := by decide +kernel
theorem d_X11_print_17 : decode prog_1_method_21_code 17 = .ok (.ireturn, 1) := by decide +kernel
theorem d_X11_print_18 : decode prog_1_method_21_code 18 = .ok (.aload_n 0, 1) := by decide +kernel
theorem d_X11_print_19 : decode prog_1_method_21_code 19 = .ok (.getfield 54, 3) := by decide +kernel
theorem d_X11_print_22 : decode prog_1_method_21_code 22 = .ok (.iconst 0, 1) := by decide +kernel
theorem d_X11_print_23 : decode prog_1_method_21_code 23 = .ok (.putfield 149, 3) := by decide +kernel
theorem d_X11_print_26 : decode prog_1_method_21_code 26 = .ok (.aload_n 0, 1) := by decide +kernel
theorem d_X11_print_27 : decode prog_1_method_21_code 27 = .ok (.getfield 54, 3) := by decide +kernel
theorem d_X11_print_30 : decode prog_1_method_21_code 30 = .ok (.aload_n 0, 1) := by decide +kernel
theorem d_X11_print_31 : decode prog_1_method_21_code 31 = .ok (.getfield 61, 3) := by decide +kernel
theorem d_X11_print_34 : decode prog_1_method_21_code 34 = .ok (.aload_n 0, 1) := by decide +kernel
theorem d_X11_print_35 : decode prog_1_method_21_code 35 = .ok (.getfield 61, 3) := by decide +kernel
theorem d_X11_print_38 : decode prog_1_method_21_code 38 = .ok (.getfield 92, 3) := by decide +kernel
