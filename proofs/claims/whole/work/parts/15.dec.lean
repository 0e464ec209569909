theorem d_X12_keep_69 : decode prog_14_method_69_code 69 = .ok (.iaload, 1) := by decide +kernel
theorem d_X12_keep_70 : decode prog_14_method_69_code 70 = .ok (.iastore, 1) := by decide +kernel
theorem d_X12_keep_71 : decode prog_14_method_69_code 71 = .ok (.iinc 2 1, 3) := by decide +kernel
theorem d_X12_keep_74 : decode prog_14_method_69_code 74 = .ok (.goto (-28), 3) := by decide +kernel
theorem d_X12_keep_77 : decode prog_14_method_69_code 77 = .ok (.iconst 0, 1) := by decide +kernel
theorem d_X12_keep_78 : decode prog_14_method_69_code 78 = .ok (.istore_n 2, 1) := by decide +kernel
theorem d_X12_keep_79 : decode prog_14_method_69_code 79 = .ok (.iload_n 2, 1) := by decide +kernel
theorem d_X12_keep_80 : decode prog_14_method_69_code 80 = .ok (.bipush 8, 2) := by decide +kernel
theorem d_X12_keep_82 : decode prog_14_method_69_code 82 = .ok (.if_icmp .ge 26, 3) := by decide +kernel
theorem d_X12_keep_85 : decode prog_14_method_69_code 85 = .ok (.aload_n 0, 1) := by decide +kernel
theorem d_X12_keep_86 : decode prog_14_method_69_code 86 = .ok (.getfield 155, 3) := by decide +kernel
theorem d_X12_keep_89 : decode prog_14_method_69_code 89 = .ok (.bipush 8, 2) := by decide +kernel
theorem d_X12_keep_91 : decode prog_14_method_69_code 91 = .ok (.iload_n 1, 1) := by decide +kernel
theorem d_X12_keep_92 : decode prog_14_method_69_code 92 = .ok (.imul, 1) := by decide +kernel
theorem d_X12_keep_93 : decode prog_14_method_69_code 93 = .ok (.iload_n 2, 1) := by decide +kernel
theorem d_X12_keep_94 : decode prog_14_method_69_code 94 = .ok (.iadd, 1) := by decide +kernel
theorem d_X12_keep_95 : decode prog_14_method_69_code 95 = .ok (.aload_n 0, 1) := by decide +kernel
theorem d_X12_keep_96 : decode prog_14_method_69_code 96 = .ok (.getfield 55, 3) := by decide +kernel
theorem d_X12_keep_99 : decode prog_14_method_69_code 99 = .ok (.iload_n 2, 1) := by decide +kernel
theorem d_X12_keep_100 : decode prog_14_method_69_code 100 = .ok (.iaload, 1) := by decide +kernel
theorem d_X12_keep_101 : decode prog_14_method_69_code 101 = .ok (.iastore, 1) := by decide +kernel
theorem d_X12_keep_102 : decode prog_14_method_69_code 102 = .ok (.iinc 2 1, 3) := by decide +kernel
theorem d_X12_keep_105 : decode prog_14_method_69_code 105 = .ok (.goto (-26), 3) := by decide +kernel
theorem d_X12_keep_108 : decode prog_14_method_69_code 108 = .ok (.aload_n 0, 1) := by decide +kernel
theorem d_X12_keep_109 : decode prog_14_method_69_code 109 = .ok (.getfield 158, 3) := by decide +kernel
theorem d_X12_keep_112 : decode prog_14_method_69_code 112 = .ok (.iload_n 1, 1) := by decide +kernel
theorem d_X12_keep_113 : decode prog_14_method_69_code 113 = .ok (.aload_n 0, 1) := by decide +kernel
theorem d_X12_keep_114 : decode prog_14_method_69_code 114 = .ok (.getfield 182, 3) := by decide +kernel
theorem d_X12_keep_117 : decode prog_14_method_69_code 117 = .ok (.iastore, 1) := by decide +kernel
theorem d_X12_keep_118 : decode prog_14_method_69_code 118 = .ok (.aload_n 0, 1) := by decide +kernel
theorem d_X12_keep_119 : decode prog_14_method_69_code 119 = .ok (.getfield 161, 3) := by decide +kernel
theorem d_X12_keep_122 : decode prog_14_method_69_code 122 = .ok (.iload_n 1, 1) := by decide +kernel
theorem d_X12_keep_123 : decode prog_14_method_69_code 123 = .ok (.aload_n 0, 1) := by decide +kernel
theorem d_X12_keep_124 : decode prog_14_method_69_code 124 = .ok (.getfield 185, 3) := by decide +kernel
theorem d_X12_keep_127 : decode prog_14_method_69_code 127 = .ok (.iastore, 1) := by decide +kernel
theorem d_X12_keep_128 : decode prog_14_method_69_code 128 = .ok (.aload_n 0, 1) := by decide +kernel
theorem d_X12_keep_129 : decode prog_14_method_69_code 129 = .ok (.invokevirtual 388, 3) := by decide +kernel
theorem d_X12_keep_132 : decode prog_14_method_69_code 132 = .ok (.ireturn, 1) := by decide +kernel
theorem d_X12_kind_0 : decode prog_14_method_49_code 0 = .ok (.iload_n 1, 1) := by decide +kernel
theorem d_X12_kind_1 : decode prog_14_method_49_code 1 = .ok (.i2l, 1) := by decide +kernel
theorem d_X12_kind_2 : decode prog_14_method_49_code 2 = .ok (.lconst 0, 1) := by decide +kernel
theorem d_X12_kind_3 : decode prog_14_method_49_code 3 = .ok (.aload_n 0, 1) := by decide +kernel
theorem d_X12_kind_4 : decode prog_14_method_49_code 4 = .ok (.getfield 354, 3) := by decide +kernel
theorem d_X12_kind_7 : decode prog_14_method_49_code 7 = .ok (.iconst 1, 1) := by decide +kernel
theorem d_X12_kind_8 : decode prog_14_method_49_code 8 = .ok (.isub, 1) := by decide +kernel
theorem d_X12_kind_9 : decode prog_14_method_49_code 9 = .ok (.i2l, 1) := by decide +kernel
theorem d_X12_kind_10 : decode prog_14_method_49_code 10 = .ok (.invokestatic 191, 3) := by decide +kernel
theorem d_X12_kind_13 : decode prog_14_method_49_code 13 = .ok (.ifCond .ne 7, 3) := by decide +kernel
theorem d_X12_kind_16 : decode prog_14_method_49_code 16 = .ok (.sipush (-1001), 3) := by decide +kernel
theorem d_X12_kind_19 : decode prog_14_method_49_code 19 = .ok (.ireturn, 1) := by decide +kernel
theorem d_X12_kind_20 : decode prog_14_method_49_code 20 = .ok (.iload_n 2, 1) := by decide +kernel
theorem d_X12_kind_21 : decode prog_14_method_49_code 21 = .ok (.i2l, 1) := by decide +kernel
theorem d_X12_kind_22 : decode prog_14_method_49_code 22 = .ok (.lconst 0, 1) := by decide +kernel
theorem d_X12_kind_23 : decode prog_14_method_49_code 23 = .ok (.ldc2_w 404, 3) := by decide +kernel
theorem d_X12_kind_26 : decode prog_14_method_49_code 26 = .ok (.invokestatic 191, 3) := by decide +kernel
theorem d_X12_kind_29 : decode prog_14_method_49_code 29 = .ok (.ifCond .ne 7, 3) := by decide +kernel
theorem d_X12_kind_32 : decode prog_14_method_49_code 32 = .ok (.sipush (-1002), 3) := by decide +kernel
theorem d_X12_kind_35 : decode prog_14_method_49_code 35 = .ok (.ireturn, 1) := by decide +kernel
theorem d_X12_kind_36 : decode prog_14_method_49_code 36 = .ok (.iconst 0, 1) := by decide +kernel
theorem d_X12_kind_37 : decode prog_14_method_49_code 37 = .ok (.istore_n 3, 1) := by decide +kernel
theorem d_X12_kind_38 : decode prog_14_method_49_code 38 = .ok (.iconst 0, 1) := by decide +kernel
theorem d_X12_kind_39 : decode prog_14_method_49_code 39 = .ok (.istore 4, 2) := by decide +kernel
theorem d_X12_kind_41 : decode prog_14_method_49_code 41 = .ok (.iload 4, 2) := by decide +kernel
theorem d_X12_kind_43 : decode prog_14_method_49_code 43 = .ok (.sipush 400, 3) := by decide +kernel
theorem d_X12_kind_46 : decode prog_14_method_49_code 46 = .ok (.if_icmp .ge 28, 3) := by decide +kernel
theorem d_X12_kind_49 : decode prog_14_method_49_code 49 = .ok (.iload_n 3, 1) := by decide +kernel
theorem d_X12_kind_50 : decode prog_14_method_49_code 50 = .ok (.aload_n 0, 1) := by decide +kernel
theorem d_X12_kind_51 : decode prog_14_method_49_code 51 = .ok (.getfield 49, 3) := by decide +kernel
theorem d_X12_kind_54 : decode prog_14_method_49_code 54 = .ok (.iload 4, 2) := by decide +kernel
theorem d_X12_kind_56 : decode prog_14_method_49_code 56 = .ok (.iaload, 1) := by decide +kernel
theorem d_X12_kind_57 : decode prog_14_method_49_code 57 = .ok (.iload_n 1, 1) := by decide +kernel
theorem d_X12_kind_58 : decode prog_14_method_49_code 58 = .ok (.if_icmp .ne 7, 3) := by decide +kernel
theorem d_X12_kind_61 : decode prog_14_method_49_code 61 = .ok (.iconst 1, 1) := by decide +kernel
theorem d_X12_kind_62 : decode prog_14_method_49_code 62 = .ok (.goto 4, 3) := by decide +kernel
theorem d_X12_kind_65 : decode prog_14_method_49_code 65 = .ok (.iconst 0, 1) := by decide +kernel
theorem d_X12_kind_66 : decode prog_14_method_49_code 66 = .ok (.iadd, 1) := by decide +kernel
theorem d_X12_kind_67 : decode prog_14_method_49_code 67 = .ok (.istore_n 3, 1) := by decide +kernel
theorem d_X12_kind_68 : decode prog_14_method_49_code 68 = .ok (.iinc 4 1, 3) := by decide +kernel
theorem d_X12_kind_71 : decode prog_14_method_49_code 71 = .ok (.goto (-30), 3) := by decide +kernel
theorem d_X12_kind_74 : decode prog_14_method_49_code 74 = .ok (.iload_n 2, 1) := by decide +kernel
theorem d_X12_kind_75 : decode prog_14_method_49_code 75 = .ok (.iconst 2, 1) := by decide +kernel
theorem d_X12_kind_76 : decode prog_14_method_49_code 76 = .ok (.isub, 1) := by decide +kernel
theorem d_X12_kind_77 : decode prog_14_method_49_code 77 = .ok (.istore 4, 2) := by decide +kernel
theorem d_X12_kind_79 : decode prog_14_method_49_code 79 = .ok (.iload_n 2, 1) := by decide +kernel
theorem d_X12_kind_80 : decode prog_14_method_49_code 80 = .ok (.ifCond .ne 12, 3) := by decide +kernel
theorem d_X12_kind_83 : decode prog_14_method_49_code 83 = .ok (.aload_n 0, 1) := by decide +kernel
theorem d_X12_kind_84 : decode prog_14_method_49_code 84 = .ok (.getfield 21, 3) := by decide +kernel
theorem d_X12_kind_87 : decode prog_14_method_49_code 87 = .ok (.iload_n 1, 1) := by decide +kernel
theorem d_X12_kind_88 : decode prog_14_method_49_code 88 = .ok (.iaload, 1) := by decide +kernel
theorem d_X12_kind_89 : decode prog_14_method_49_code 89 = .ok (.goto 69, 3) := by decide +kernel
theorem d_X12_kind_92 : decode prog_14_method_49_code 92 = .ok (.iload_n 2, 1) := by decide +kernel
theorem d_X12_kind_93 : decode prog_14_method_49_code 93 = .ok (.iconst 1, 1) := by decide +kernel
theorem d_X12_kind_94 : decode prog_14_method_49_code 94 = .ok (.if_icmp .ne 7, 3) := by decide +kernel
theorem d_X12_kind_97 : decode prog_14_method_49_code 97 = .ok (.iload_n 3, 1) := by decide +kernel
theorem d_X12_kind_98 : decode prog_14_method_49_code 98 = .ok (.goto 60, 3) := by decide +kernel
theorem d_X12_kind_101 : decode prog_14_method_49_code 101 = .ok (.iload 4, 2) := by decide +kernel
theorem d_X12_kind_103 : decode prog_14_method_49_code 103 = .ok (.aload_n 0, 1) := by decide +kernel
theorem d_X12_kind_104 : decode prog_14_method_49_code 104 = .ok (.getfield 21, 3) := by decide +kernel
theorem d_X12_kind_107 : decode prog_14_method_49_code 107 = .ok (.iload_n 1, 1) := by decide +kernel
theorem d_X12_kind_108 : decode prog_14_method_49_code 108 = .ok (.iaload, 1) := by decide +kernel
theorem d_X12_kind_109 : decode prog_14_method_49_code 109 = .ok (.if_icmp .lt 8, 3) := by decide +kernel
theorem d_X12_kind_112 : decode prog_14_method_49_code 112 = .ok (.bipush (-100), 2) := by decide +kernel
theorem d_X12_kind_114 : decode prog_14_method_49_code 114 = .ok (.goto 44, 3) := by decide +kernel
theorem d_X12_kind_117 : decode prog_14_method_49_code 117 = .ok (.aload_n 0, 1) := by decide +kernel
theorem d_X12_kind_118 : decode prog_14_method_49_code 118 = .ok (.getfield 27, 3) := by decide +kernel
theorem d_X12_kind_121 : decode prog_14_method_49_code 121 = .ok (.iconst 5, 1) := by decide +kernel
theorem d_X12_kind_122 : decode prog_14_method_49_code 122 = .ok (.iload_n 1, 1) := by decide +kernel
theorem d_X12_kind_123 : decode prog_14_method_49_code 123 = .ok (.imul, 1) := by decide +kernel
theorem d_X12_kind_124 : decode prog_14_method_49_code 124 = .ok (.iload 4, 2) := by decide +kernel
theorem d_X12_kind_126 : decode prog_14_method_49_code 126 = .ok (.iadd, 1) := by decide +kernel
theorem d_X12_kind_127 : decode prog_14_method_49_code 127 = .ok (.baload, 1) := by decide +kernel
theorem d_X12_kind_128 : decode prog_14_method_49_code 128 = .ok (.ifCond .eq 17, 3) := by decide +kernel
theorem d_X12_kind_131 : decode prog_14_method_49_code 131 = .ok (.aload_n 0, 1) := by decide +kernel
theorem d_X12_kind_132 : decode prog_14_method_49_code 132 = .ok (.getfield 24, 3) := by decide +kernel
theorem d_X12_kind_135 : decode prog_14_method_49_code 135 = .ok (.iconst 5, 1) := by decide +kernel
theorem d_X12_kind_136 : decode prog_14_method_49_code 136 = .ok (.iload_n 1, 1) := by decide +kernel
theorem d_X12_kind_137 : decode prog_14_method_49_code 137 = .ok (.imul, 1) := by decide +kernel
theorem d_X12_kind_138 : decode prog_14_method_49_code 138 = .ok (.iload 4, 2) := by decide +kernel
theorem d_X12_kind_140 : decode prog_14_method_49_code 140 = .ok (.iadd, 1) := by decide +kernel
theorem d_X12_kind_141 : decode prog_14_method_49_code 141 = .ok (.iaload, 1) := by decide +kernel
theorem d_X12_kind_142 : decode prog_14_method_49_code 142 = .ok (.goto 16, 3) := by decide +kernel
theorem d_X12_kind_145 : decode prog_14_method_49_code 145 = .ok (.iconst (-1), 1) := by decide +kernel
theorem d_X12_kind_146 : decode prog_14_method_49_code 146 = .ok (.aload_n 0, 1) := by decide +kernel
theorem d_X12_kind_147 : decode prog_14_method_49_code 147 = .ok (.getfield 24, 3) := by decide +kernel
theorem d_X12_kind_150 : decode prog_14_method_49_code 150 = .ok (.iconst 5, 1) := by decide +kernel
theorem d_X12_kind_151 : decode prog_14_method_49_code 151 = .ok (.iload_n 1, 1) := by decide +kernel
theorem d_X12_kind_152 : decode prog_14_method_49_code 152 = .ok (.imul, 1) := by decide +kernel
theorem d_X12_kind_153 : decode prog_14_method_49_code 153 = .ok (.iload 4, 2) := by decide +kernel
theorem d_X12_kind_155 : decode prog_14_method_49_code 155 = .ok (.iadd, 1) := by decide +kernel
theorem d_X12_kind_156 : decode prog_14_method_49_code 156 = .ok (.iaload, 1) := by decide +kernel
theorem d_X12_kind_157 : decode prog_14_method_49_code 157 = .ok (.isub, 1) := by decide +kernel
theorem d_X12_kind_158 : decode prog_14_method_49_code 158 = .ok (.ireturn, 1) := by decide +kernel
theorem d_X12_kindNamed_0 : decode prog_14_method_17_code 0 = .ok (.iconst (-1), 1) := by decide +kernel
theorem d_X12_kindNamed_1 : decode prog_14_method_17_code 1 = .ok (.istore_n 3, 1) := by decide +kernel
theorem d_X12_kindNamed_2 : decode prog_14_method_17_code 2 = .ok (.iconst 0, 1) := by decide +kernel
theorem d_X12_kindNamed_3 : decode prog_14_method_17_code 3 = .ok (.istore 4, 2) := by decide +kernel
theorem d_X12_kindNamed_5 : decode prog_14_method_17_code 5 = .ok (.iload 4, 2) := by decide +kernel
theorem d_X12_kindNamed_7 : decode prog_14_method_17_code 7 = .ok (.aload_n 0, 1) := by decide +kernel
theorem d_X12_kindNamed_8 : decode prog_14_method_17_code 8 = .ok (.getfield 248, 3) := by decide +kernel
theorem d_X12_kindNamed_11 : decode prog_14_method_17_code 11 = .ok (.if_icmp .ge 28, 3) := by decide +kernel
theorem d_X12_kindNamed_14 : decode prog_14_method_17_code 14 = .ok (.aload_n 0, 1) := by decide +kernel
theorem d_X12_kindNamed_15 : decode prog_14_method_17_code 15 = .ok (.getfield 68, 3) := by decide +kernel
theorem d_X12_kindNamed_18 : decode prog_14_method_17_code 18 = .ok (.iload 4, 2) := by decide +kernel
theorem d_X12_kindNamed_20 : decode prog_14_method_17_code 20 = .ok (.laload, 1) := by decide +kernel
theorem d_X12_kindNamed_21 : decode prog_14_method_17_code 21 = .ok (.lload_n 1, 1) := by decide +kernel
theorem d_X12_kindNamed_22 : decode prog_14_method_17_code 22 = .ok (.lcmp, 1) := by decide +kernel
theorem d_X12_kindNamed_23 : decode prog_14_method_17_code 23 = .ok (.ifCond .ne 8, 3) := by decide +kernel
theorem d_X12_kindNamed_26 : decode prog_14_method_17_code 26 = .ok (.iload 4, 2) := by decide +kernel
theorem d_X12_kindNamed_28 : decode prog_14_method_17_code 28 = .ok (.goto 4, 3) := by decide +kernel
theorem d_X12_kindNamed_31 : decode prog_14_method_17_code 31 = .ok (.iload_n 3, 1) := by decide +kernel
theorem d_X12_kindNamed_32 : decode prog_14_method_17_code 32 = .ok (.istore_n 3, 1) := by decide +kernel
theorem d_X12_kindNamed_33 : decode prog_14_method_17_code 33 = .ok (.iinc 4 1, 3) := by decide +kernel
theorem d_X12_kindNamed_36 : decode prog_14_method_17_code 36 = .ok (.goto (-31), 3) := by decide +kernel
theorem d_X12_kindNamed_39 : decode prog_14_method_17_code 39 = .ok (.iload_n 3, 1) := by decide +kernel
theorem d_X12_kindNamed_40 : decode prog_14_method_17_code 40 = .ok (.ireturn, 1) := by decide +kernel
theorem d_X12_manyOf_0 : decode prog_14_method_77_code 0 = .ok (.iconst 0, 1) := by decide +kernel
theorem d_X12_manyOf_1 : decode prog_14_method_77_code 1 = .ok (.istore 4, 2) := by decide +kernel
theorem d_X12_manyOf_3 : decode prog_14_method_77_code 3 = .ok (.iconst 0, 1) := by decide +kernel
theorem d_X12_manyOf_4 : decode prog_14_method_77_code 4 = .ok (.istore 5, 2) := by decide +kernel
theorem d_X12_manyOf_6 : decode prog_14_method_77_code 6 = .ok (.iload 5, 2) := by decide +kernel
theorem d_X12_manyOf_8 : decode prog_14_method_77_code 8 = .ok (.sipush 400, 3) := by decide +kernel
theorem d_X12_manyOf_11 : decode prog_14_method_77_code 11 = .ok (.if_icmp .ge 31, 3) := by decide +kernel
theorem d_X12_manyOf_14 : decode prog_14_method_77_code 14 = .ok (.iload 4, 2) := by decide +kernel
theorem d_X12_manyOf_16 : decode prog_14_method_77_code 16 = .ok (.aload_n 0, 1) := by decide +kernel
theorem d_X12_manyOf_17 : decode prog_14_method_77_code 17 = .ok (.iload_n 1, 1) := by decide +kernel
theorem d_X12_manyOf_18 : decode prog_14_method_77_code 18 = .ok (.iload_n 2, 1) := by decide +kernel
theorem d_X12_manyOf_19 : decode prog_14_method_77_code 19 = .ok (.iload 5, 2) := by decide +kernel
theorem d_X12_manyOf_21 : decode prog_14_method_77_code 21 = .ok (.invokevirtual 457, 3) := by decide +kernel
theorem d_X12_manyOf_24 : decode prog_14_method_77_code 24 = .ok (.iload_n 3, 1) := by decide +kernel
theorem d_X12_manyOf_25 : decode prog_14_method_77_code 25 = .ok (.if_icmp .ne 7, 3) := by decide +kernel
theorem d_X12_manyOf_28 : decode prog_14_method_77_code 28 = .ok (.iconst 1, 1) := by decide +kernel
theorem d_X12_manyOf_29 : decode prog_14_method_77_code 29 = .ok (.goto 4, 3) := by decide +kernel
theorem d_X12_manyOf_32 : decode prog_14_method_77_code 32 = .ok (.iconst 0, 1) := by decide +kernel
theorem d_X12_manyOf_33 : decode prog_14_method_77_code 33 = .ok (.iadd, 1) := by decide +kernel
theorem d_X12_manyOf_34 : decode prog_14_method_77_code 34 = .ok (.istore 4, 2) := by decide +kernel
theorem d_X12_manyOf_36 : decode prog_14_method_77_code 36 = .ok (.iinc 5 1, 3) := by decide +kernel
theorem d_X12_manyOf_39 : decode prog_14_method_77_code 39 = .ok (.goto (-33), 3) := by decide +kernel
theorem d_X12_manyOf_42 : decode prog_14_method_77_code 42 = .ok (.iload 4, 2) := by decide +kernel
theorem d_X12_manyOf_44 : decode prog_14_method_77_code 44 = .ok (.ireturn, 1) := by decide +kernel
theorem d_X12_meet_0 : decode prog_14_method_74_code 0 = .ok (.iload_n 2, 1) := by decide +kernel
theorem d_X12_meet_1 : decode prog_14_method_74_code 1 = .ok (.ifCond .lt 70, 3) := by decide +kernel
theorem d_X12_meet_4 : decode prog_14_method_74_code 4 = .ok (.aload_n 0, 1) := by decide +kernel
theorem d_X12_meet_5 : decode prog_14_method_74_code 5 = .ok (.getfield 167, 3) := by decide +kernel
theorem d_X12_meet_8 : decode prog_14_method_74_code 8 = .ok (.sipush 400, 3) := by decide +kernel
theorem d_X12_meet_11 : decode prog_14_method_74_code 11 = .ok (.iload_n 1, 1) := by decide +kernel
theorem d_X12_meet_12 : decode prog_14_method_74_code 12 = .ok (.imul, 1) := by decide +kernel
theorem d_X12_meet_13 : decode prog_14_method_74_code 13 = .ok (.iload_n 2, 1) := by decide +kernel
theorem d_X12_meet_14 : decode prog_14_method_74_code 14 = .ok (.iconst 5, 1) := by decide +kernel
theorem d_X12_meet_15 : decode prog_14_method_74_code 15 = .ok (.idiv, 1) := by decide +kernel
theorem d_X12_meet_16 : decode prog_14_method_74_code 16 = .ok (.iadd, 1) := by decide +kernel
theorem d_X12_meet_17 : decode prog_14_method_74_code 17 = .ok (.iaload, 1) := by decide +kernel
theorem d_X12_meet_18 : decode prog_14_method_74_code 18 = .ok (.ifCond .ge 53, 3) := by decide +kernel
theorem d_X12_meet_21 : decode prog_14_method_74_code 21 = .ok (.aload_n 0, 1) := by decide +kernel
theorem d_X12_meet_22 : decode prog_14_method_74_code 22 = .ok (.getfield 167, 3) := by decide +kernel
theorem d_X12_meet_25 : decode prog_14_method_74_code 25 = .ok (.sipush 400, 3) := by decide +kernel
theorem d_X12_meet_28 : decode prog_14_method_74_code 28 = .ok (.iload_n 1, 1) := by decide +kernel
theorem d_X12_meet_29 : decode prog_14_method_74_code 29 = .ok (.imul, 1) := by decide +kernel
theorem d_X12_meet_30 : decode prog_14_method_74_code 30 = .ok (.iload_n 2, 1) := by decide +kernel
theorem d_X12_meet_31 : decode prog_14_method_74_code 31 = .ok (.iconst 5, 1) := by decide +kernel
theorem d_X12_meet_32 : decode prog_14_method_74_code 32 = .ok (.idiv, 1) := by decide +kernel
theorem d_X12_meet_33 : decode prog_14_method_74_code 33 = .ok (.iadd, 1) := by decide +kernel
theorem d_X12_meet_34 : decode prog_14_method_74_code 34 = .ok (.aload_n 0, 1) := by decide +kernel
theorem d_X12_meet_35 : decode prog_14_method_74_code 35 = .ok (.getfield 170, 3) := by decide +kernel
theorem d_X12_meet_38 : decode prog_14_method_74_code 38 = .ok (.iload_n 1, 1) := by decide +kernel
theorem d_X12_meet_39 : decode prog_14_method_74_code 39 = .ok (.iaload, 1) := by decide +kernel
theorem d_X12_meet_40 : decode prog_14_method_74_code 40 = .ok (.iastore, 1) := by decide +kernel
theorem d_X12_meet_41 : decode prog_14_method_74_code 41 = .ok (.aload_n 0, 1) := by decide +kernel
theorem d_X12_meet_42 : decode prog_14_method_74_code 42 = .ok (.getfield 164, 3) := by decide +kernel
theorem d_X12_meet_45 : decode prog_14_method_74_code 45 = .ok (.sipush 400, 3) := by decide +kernel
theorem d_X12_meet_48 : decode prog_14_method_74_code 48 = .ok (.iload_n 1, 1) := by decide +kernel
theorem d_X12_meet_49 : decode prog_14_method_74_code 49 = .ok (.imul, 1) := by decide +kernel
theorem d_X12_meet_50 : decode prog_14_method_74_code 50 = .ok (.aload_n 0, 1) := by decide +kernel
theorem d_X12_meet_51 : decode prog_14_method_74_code 51 = .ok (.getfield 170, 3) := by decide +kernel
theorem d_X12_meet_54 : decode prog_14_method_74_code 54 = .ok (.iload_n 1, 1) := by decide +kernel
theorem d_X12_meet_55 : decode prog_14_method_74_code 55 = .ok (.iaload, 1) := by decide +kernel
theorem d_X12_meet_56 : decode prog_14_method_74_code 56 = .ok (.iadd, 1) := by decide +kernel
theorem d_X12_meet_57 : decode prog_14_method_74_code 57 = .ok (.iload_n 2, 1) := by decide +kernel
theorem d_X12_meet_58 : decode prog_14_method_74_code 58 = .ok (.iconst 5, 1) := by decide +kernel
theorem d_X12_meet_59 : decode prog_14_method_74_code 59 = .ok (.idiv, 1) := by decide +kernel
theorem d_X12_meet_60 : decode prog_14_method_74_code 60 = .ok (.iastore, 1) := by decide +kernel
theorem d_X12_meet_61 : decode prog_14_method_74_code 61 = .ok (.aload_n 0, 1) := by decide +kernel
theorem d_X12_meet_62 : decode prog_14_method_74_code 62 = .ok (.getfield 170, 3) := by decide +kernel
theorem d_X12_meet_65 : decode prog_14_method_74_code 65 = .ok (.iload_n 1, 1) := by decide +kernel
theorem d_X12_meet_66 : decode prog_14_method_74_code 66 = .ok (.dup2, 1) := by decide +kernel
theorem d_X12_meet_67 : decode prog_14_method_74_code 67 = .ok (.iaload, 1) := by decide +kernel
theorem d_X12_meet_68 : decode prog_14_method_74_code 68 = .ok (.iconst 1, 1) := by decide +kernel
theorem d_X12_meet_69 : decode prog_14_method_74_code 69 = .ok (.iadd, 1) := by decide +kernel
theorem d_X12_meet_70 : decode prog_14_method_74_code 70 = .ok (.iastore, 1) := by decide +kernel
theorem d_X12_meet_71 : decode prog_14_method_74_code 71 = .ok (.return_, 1) := by decide +kernel
theorem d_X12_wireOf_0 : decode prog_14_method_72_code 0 = .ok (.iload_n 1, 1) := by decide +kernel
theorem d_X12_wireOf_1 : decode prog_14_method_72_code 1 = .ok (.ifCond .ne 12, 3) := by decide +kernel
theorem d_X12_wireOf_4 : decode prog_14_method_72_code 4 = .ok (.aload_n 0, 1) := by decide +kernel
theorem d_X12_wireOf_5 : decode prog_14_method_72_code 5 = .ok (.getfield 52, 3) := by decide +kernel
theorem d_X12_wireOf_8 : decode prog_14_method_72_code 8 = .ok (.iload_n 3, 1) := by decide +kernel
theorem d_X12_wireOf_9 : decode prog_14_method_72_code 9 = .ok (.iaload, 1) := by decide +kernel
theorem d_X12_wireOf_10 : decode prog_14_method_72_code 10 = .ok (.goto 15, 3) := by decide +kernel
theorem d_X12_wireOf_13 : decode prog_14_method_72_code 13 = .ok (.aload_n 0, 1) := by decide +kernel
theorem d_X12_wireOf_14 : decode prog_14_method_72_code 14 = .ok (.getfield 152, 3) := by decide +kernel
theorem d_X12_wireOf_17 : decode prog_14_method_72_code 17 = .ok (.sipush 2000, 3) := by decide +kernel
theorem d_X12_wireOf_20 : decode prog_14_method_72_code 20 = .ok (.iload_n 2, 1) := by decide +kernel
theorem d_X12_wireOf_21 : decode prog_14_method_72_code 21 = .ok (.imul, 1) := by decide +kernel
theorem d_X12_wireOf_22 : decode prog_14_method_72_code 22 = .ok (.iload_n 3, 1) := by decide +kernel
theorem d_X12_wireOf_23 : decode prog_14_method_72_code 23 = .ok (.iadd, 1) := by decide +kernel
theorem d_X12_wireOf_24 : decode prog_14_method_72_code 24 = .ok (.iaload, 1) := by decide +kernel
theorem d_X12_wireOf_25 : decode prog_14_method_72_code 25 = .ok (.ireturn, 1) := by decide +kernel
theorem d_X12_reach_0 : decode prog_14_method_75_code 0 = .ok (.aload_n 0, 1) := by decide +kernel
theorem d_X12_reach_1 : decode prog_14_method_75_code 1 = .ok (.getfield 170, 3) := by decide +kernel
theorem d_X12_reach_4 : decode prog_14_method_75_code 4 = .ok (.iload_n 1, 1) := by decide +kernel
theorem d_X12_reach_5 : decode prog_14_method_75_code 5 = .ok (.iconst 0, 1) := by decide +kernel
theorem d_X12_reach_6 : decode prog_14_method_75_code 6 = .ok (.iastore, 1) := by decide +kernel
theorem d_X12_reach_7 : decode prog_14_method_75_code 7 = .ok (.iconst 0, 1) := by decide +kernel
theorem d_X12_reach_8 : decode prog_14_method_75_code 8 = .ok (.istore_n 3, 1) := by decide +kernel
theorem d_X12_reach_9 : decode prog_14_method_75_code 9 = .ok (.iload_n 3, 1) := by decide +kernel
theorem d_X12_reach_10 : decode prog_14_method_75_code 10 = .ok (.sipush 400, 3) := by decide +kernel
theorem d_X12_reach_13 : decode prog_14_method_75_code 13 = .ok (.if_icmp .ge 22, 3) := by decide +kernel
theorem d_X12_reach_16 : decode prog_14_method_75_code 16 = .ok (.aload_n 0, 1) := by decide +kernel
theorem d_X12_reach_17 : decode prog_14_method_75_code 17 = .ok (.getfield 167, 3) := by decide +kernel
theorem d_X12_reach_20 : decode prog_14_method_75_code 20 = .ok (.sipush 400, 3) := by decide +kernel
theorem d_X12_reach_23 : decode prog_14_method_75_code 23 = .ok (.iload_n 1, 1) := by decide +kernel
theorem d_X12_reach_24 : decode prog_14_method_75_code 24 = .ok (.imul, 1) := by decide +kernel
theorem d_X12_reach_25 : decode prog_14_method_75_code 25 = .ok (.iload_n 3, 1) := by decide +kernel
theorem d_X12_reach_26 : decode prog_14_method_75_code 26 = .ok (.iadd, 1) := by decide +kernel
theorem d_X12_reach_27 : decode prog_14_method_75_code 27 = .ok (.iconst (-1), 1) := by decide +kernel
theorem d_X12_reach_28 : decode prog_14_method_75_code 28 = .ok (.iastore, 1) := by decide +kernel
theorem d_X12_reach_29 : decode prog_14_method_75_code 29 = .ok (.iinc 3 1, 3) := by decide +kernel
theorem d_X12_reach_32 : decode prog_14_method_75_code 32 = .ok (.goto (-23), 3) := by decide +kernel
theorem d_X12_reach_35 : decode prog_14_method_75_code 35 = .ok (.iconst 0, 1) := by decide +kernel
theorem d_X12_reach_36 : decode prog_14_method_75_code 36 = .ok (.istore_n 3, 1) := by decide +kernel
theorem d_X12_reach_37 : decode prog_14_method_75_code 37 = .ok (.iload_n 1, 1) := by decide +kernel
theorem d_X12_reach_38 : decode prog_14_method_75_code 38 = .ok (.ifCond .ne 10, 3) := by decide +kernel
theorem d_X12_reach_41 : decode prog_14_method_75_code 41 = .ok (.aload_n 0, 1) := by decide +kernel
theorem d_X12_reach_42 : decode prog_14_method_75_code 42 = .ok (.getfield 182, 3) := by decide +kernel
theorem d_X12_reach_45 : decode prog_14_method_75_code 45 = .ok (.goto 9, 3) := by decide +kernel
theorem d_X12_reach_48 : decode prog_14_method_75_code 48 = .ok (.aload_n 0, 1) := by decide +kernel
theorem d_X12_reach_49 : decode prog_14_method_75_code 49 = .ok (.getfield 158, 3) := by decide +kernel
theorem d_X12_reach_52 : decode prog_14_method_75_code 52 = .ok (.iload_n 2, 1) := by decide +kernel
theorem d_X12_reach_53 : decode prog_14_method_75_code 53 = .ok (.iaload, 1) := by decide +kernel
theorem d_X12_reach_54 : decode prog_14_method_75_code 54 = .ok (.istore 4, 2) := by decide +kernel
theorem d_X12_reach_56 : decode prog_14_method_75_code 56 = .ok (.iconst 0, 1) := by decide +kernel
theorem d_X12_reach_57 : decode prog_14_method_75_code 57 = .ok (.istore 5, 2) := by decide +kernel
theorem d_X12_reach_59 : decode prog_14_method_75_code 59 = .ok (.iload 5, 2) := by decide +kernel
theorem d_X12_reach_61 : decode prog_14_method_75_code 61 = .ok (.iload 4, 2) := by decide +kernel
theorem d_X12_reach_63 : decode prog_14_method_75_code 63 = .ok (.if_icmp .ge 97, 3) := by decide +kernel
theorem d_X12_reach_66 : decode prog_14_method_75_code 66 = .ok (.aload_n 0, 1) := by decide +kernel
theorem d_X12_reach_67 : decode prog_14_method_75_code 67 = .ok (.iload_n 1, 1) := by decide +kernel
theorem d_X12_reach_68 : decode prog_14_method_75_code 68 = .ok (.aload_n 0, 1) := by decide +kernel
theorem d_X12_reach_69 : decode prog_14_method_75_code 69 = .ok (.iload_n 1, 1) := by decide +kernel
theorem d_X12_reach_70 : decode prog_14_method_75_code 70 = .ok (.iload_n 2, 1) := by decide +kernel
theorem d_X12_reach_71 : decode prog_14_method_75_code 71 = .ok (.iload 5, 2) := by decide +kernel
theorem d_X12_reach_73 : decode prog_14_method_75_code 73 = .ok (.invokevirtual 450, 3) := by decide +kernel
theorem d_X12_reach_76 : decode prog_14_method_75_code 76 = .ok (.invokevirtual 454, 3) := by decide +kernel
theorem d_X12_reach_79 : decode prog_14_method_75_code 79 = .ok (.iload_n 3, 1) := by decide +kernel
theorem d_X12_reach_80 : decode prog_14_method_75_code 80 = .ok (.aload_n 0, 1) := by decide +kernel
theorem d_X12_reach_81 : decode prog_14_method_75_code 81 = .ok (.getfield 170, 3) := by decide +kernel
theorem d_X12_reach_84 : decode prog_14_method_75_code 84 = .ok (.iload_n 1, 1) := by decide +kernel
theorem d_X12_reach_85 : decode prog_14_method_75_code 85 = .ok (.iaload, 1) := by decide +kernel
theorem d_X12_reach_86 : decode prog_14_method_75_code 86 = .ok (.if_icmp .ge 68, 3) := by decide +kernel
theorem d_X12_reach_89 : decode prog_14_method_75_code 89 = .ok (.aload_n 0, 1) := by decide +kernel
theorem d_X12_reach_90 : decode prog_14_method_75_code 90 = .ok (.getfield 164, 3) := by decide +kernel
theorem d_X12_reach_93 : decode prog_14_method_75_code 93 = .ok (.sipush 400, 3) := by decide +kernel
theorem d_X12_reach_96 : decode prog_14_method_75_code 96 = .ok (.iload_n 1, 1) := by decide +kernel
theorem d_X12_reach_97 : decode prog_14_method_75_code 97 = .ok (.imul, 1) := by decide +kernel
theorem d_X12_reach_98 : decode prog_14_method_75_code 98 = .ok (.iload_n 3, 1) := by decide +kernel
theorem d_X12_reach_99 : decode prog_14_method_75_code 99 = .ok (.iadd, 1) := by decide +kernel
theorem d_X12_reach_100 : decode prog_14_method_75_code 100 = .ok (.iaload, 1) := by decide +kernel
theorem d_X12_reach_101 : decode prog_14_method_75_code 101 = .ok (.istore 6, 2) := by decide +kernel
theorem d_X12_reach_103 : decode prog_14_method_75_code 103 = .ok (.iinc 3 1, 3) := by decide +kernel
theorem d_X12_reach_106 : decode prog_14_method_75_code 106 = .ok (.iconst 0, 1) := by decide +kernel
theorem d_X12_reach_107 : decode prog_14_method_75_code 107 = .ok (.istore 7, 2) := by decide +kernel
theorem d_X12_reach_109 : decode prog_14_method_75_code 109 = .ok (.iload 7, 2) := by decide +kernel
theorem d_X12_reach_111 : decode prog_14_method_75_code 111 = .ok (.aload_n 0, 1) := by decide +kernel
theorem d_X12_reach_112 : decode prog_14_method_75_code 112 = .ok (.getfield 21, 3) := by decide +kernel
theorem d_X12_reach_115 : decode prog_14_method_75_code 115 = .ok (.aload_n 0, 1) := by decide +kernel
theorem d_X12_reach_116 : decode prog_14_method_75_code 116 = .ok (.iload_n 1, 1) := by decide +kernel
theorem d_X12_reach_117 : decode prog_14_method_75_code 117 = .ok (.iload_n 2, 1) := by decide +kernel
theorem d_X12_reach_118 : decode prog_14_method_75_code 118 = .ok (.iload 6, 2) := by decide +kernel
theorem d_X12_reach_120 : decode prog_14_method_75_code 120 = .ok (.invokevirtual 457, 3) := by decide +kernel
theorem d_X12_reach_123 : decode prog_14_method_75_code 123 = .ok (.iaload, 1) := by decide +kernel
theorem d_X12_reach_124 : decode prog_14_method_75_code 124 = .ok (.if_icmp .ge 27, 3) := by decide +kernel
theorem d_X12_reach_127 : decode prog_14_method_75_code 127 = .ok (.aload_n 0, 1) := by decide +kernel
theorem d_X12_reach_128 : decode prog_14_method_75_code 128 = .ok (.iload_n 1, 1) := by decide +kernel
theorem d_X12_reach_129 : decode prog_14_method_75_code 129 = .ok (.aload_n 0, 1) := by decide +kernel
theorem d_X12_reach_130 : decode prog_14_method_75_code 130 = .ok (.iload_n 1, 1) := by decide +kernel
theorem d_X12_reach_131 : decode prog_14_method_75_code 131 = .ok (.iload_n 2, 1) := by decide +kernel
theorem d_X12_reach_132 : decode prog_14_method_75_code 132 = .ok (.iconst 5, 1) := by decide +kernel
theorem d_X12_reach_133 : decode prog_14_method_75_code 133 = .ok (.iload 6, 2) := by decide +kernel
theorem d_X12_reach_135 : decode prog_14_method_75_code 135 = .ok (.imul, 1) := by decide +kernel
theorem d_X12_reach_136 : decode prog_14_method_75_code 136 = .ok (.iload 7, 2) := by decide +kernel
theorem d_X12_reach_138 : decode prog_14_method_75_code 138 = .ok (.iadd, 1) := by decide +kernel
theorem d_X12_reach_139 : decode prog_14_method_75_code 139 = .ok (.invokevirtual 460, 3) := by decide +kernel
theorem d_X12_reach_142 : decode prog_14_method_75_code 142 = .ok (.invokevirtual 454, 3) := by decide +kernel
theorem d_X12_reach_145 : decode prog_14_method_75_code 145 = .ok (.iinc 7 1, 3) := by decide +kernel
theorem d_X12_reach_148 : decode prog_14_method_75_code 148 = .ok (.goto (-39), 3) := by decide +kernel
theorem d_X12_reach_151 : decode prog_14_method_75_code 151 = .ok (.goto (-72), 3) := by decide +kernel
theorem d_X12_reach_154 : decode prog_14_method_75_code 154 = .ok (.iinc 5 1, 3) := by decide +kernel
theorem d_X12_reach_157 : decode prog_14_method_75_code 157 = .ok (.goto (-98), 3) := by decide +kernel
theorem d_X12_reach_160 : decode prog_14_method_75_code 160 = .ok (.return_, 1) := by decide +kernel
theorem d_X12_like_0 : decode prog_14_method_78_code 0 = .ok (.iload_n 1, 1) := by decide +kernel
theorem d_X12_like_1 : decode prog_14_method_78_code 1 = .ok (.invokestatic 447, 3) := by decide +kernel
theorem d_X12_like_4 : decode prog_14_method_78_code 4 = .ok (.ifCond .ne 7, 3) := by decide +kernel
theorem d_X12_like_7 : decode prog_14_method_78_code 7 = .ok (.sipush (-1001), 3) := by decide +kernel
theorem d_X12_like_10 : decode prog_14_method_78_code 10 = .ok (.ireturn, 1) := by decide +kernel
theorem d_X12_like_11 : decode prog_14_method_78_code 11 = .ok (.aload_n 0, 1) := by decide +kernel
theorem d_X12_like_12 : decode prog_14_method_78_code 12 = .ok (.getfield 158, 3) := by decide +kernel
theorem d_X12_like_15 : decode prog_14_method_78_code 15 = .ok (.iload_n 1, 1) := by decide +kernel
theorem d_X12_like_16 : decode prog_14_method_78_code 16 = .ok (.iaload, 1) := by decide +kernel
theorem d_X12_like_17 : decode prog_14_method_78_code 17 = .ok (.ifCond .ge 7, 3) := by decide +kernel
theorem d_X12_like_20 : decode prog_14_method_78_code 20 = .ok (.sipush (-1003), 3) := by decide +kernel
theorem d_X12_like_23 : decode prog_14_method_78_code 23 = .ok (.ireturn, 1) := by decide +kernel
theorem d_X12_like_24 : decode prog_14_method_78_code 24 = .ok (.aload_n 0, 1) := by decide +kernel
theorem d_X12_like_25 : decode prog_14_method_78_code 25 = .ok (.iconst 0, 1) := by decide +kernel
theorem d_X12_like_26 : decode prog_14_method_78_code 26 = .ok (.iload_n 1, 1) := by decide +kernel
theorem d_X12_like_27 : decode prog_14_method_78_code 27 = .ok (.invokevirtual 463, 3) := by decide +kernel
theorem d_X12_like_30 : decode prog_14_method_78_code 30 = .ok (.aload_n 0, 1) := by decide +kernel
theorem d_X12_like_31 : decode prog_14_method_78_code 31 = .ok (.iconst 1, 1) := by decide +kernel
theorem d_X12_like_32 : decode prog_14_method_78_code 32 = .ok (.iload_n 1, 1) := by decide +kernel
theorem d_X12_like_33 : decode prog_14_method_78_code 33 = .ok (.invokevirtual 463, 3) := by decide +kernel
theorem d_X12_like_36 : decode prog_14_method_78_code 36 = .ok (.aload_n 0, 1) := by decide +kernel
theorem d_X12_like_37 : decode prog_14_method_78_code 37 = .ok (.getfield 182, 3) := by decide +kernel
theorem d_X12_like_40 : decode prog_14_method_78_code 40 = .ok (.aload_n 0, 1) := by decide +kernel
theorem d_X12_like_41 : decode prog_14_method_78_code 41 = .ok (.getfield 158, 3) := by decide +kernel
theorem d_X12_like_44 : decode prog_14_method_78_code 44 = .ok (.iload_n 1, 1) := by decide +kernel
theorem d_X12_like_45 : decode prog_14_method_78_code 45 = .ok (.iaload, 1) := by decide +kernel
theorem d_X12_like_46 : decode prog_14_method_78_code 46 = .ok (.if_icmp .ne 35, 3) := by decide +kernel
theorem d_X12_like_49 : decode prog_14_method_78_code 49 = .ok (.aload_n 0, 1) := by decide +kernel
theorem d_X12_like_50 : decode prog_14_method_78_code 50 = .ok (.getfield 185, 3) := by decide +kernel
theorem d_X12_like_53 : decode prog_14_method_78_code 53 = .ok (.aload_n 0, 1) := by decide +kernel
theorem d_X12_like_54 : decode prog_14_method_78_code 54 = .ok (.getfield 161, 3) := by decide +kernel
theorem d_X12_like_57 : decode prog_14_method_78_code 57 = .ok (.iload_n 1, 1) := by decide +kernel
theorem d_X12_like_58 : decode prog_14_method_78_code 58 = .ok (.iaload, 1) := by decide +kernel
theorem d_X12_like_59 : decode prog_14_method_78_code 59 = .ok (.if_icmp .ne 22, 3) := by decide +kernel
theorem d_X12_like_62 : decode prog_14_method_78_code 62 = .ok (.aload_n 0, 1) := by decide +kernel
theorem d_X12_like_63 : decode prog_14_method_78_code 63 = .ok (.getfield 170, 3) := by decide +kernel
theorem d_X12_like_66 : decode prog_14_method_78_code 66 = .ok (.iconst 0, 1) := by decide +kernel
theorem d_X12_like_67 : decode prog_14_method_78_code 67 = .ok (.iaload, 1) := by decide +kernel
theorem d_X12_like_68 : decode prog_14_method_78_code 68 = .ok (.aload_n 0, 1) := by decide +kernel
theorem d_X12_like_69 : decode prog_14_method_78_code 69 = .ok (.getfield 170, 3) := by decide +kernel
theorem d_X12_like_72 : decode prog_14_method_78_code 72 = .ok (.iconst 1, 1) := by decide +kernel
theorem d_X12_like_73 : decode prog_14_method_78_code 73 = .ok (.iaload, 1) := by decide +kernel
theorem d_X12_like_74 : decode prog_14_method_78_code 74 = .ok (.if_icmp .ne 7, 3) := by decide +kernel
theorem d_X12_like_77 : decode prog_14_method_78_code 77 = .ok (.iconst 1, 1) := by decide +kernel
theorem d_X12_like_78 : decode prog_14_method_78_code 78 = .ok (.goto 4, 3) := by decide +kernel
theorem d_X12_like_81 : decode prog_14_method_78_code 81 = .ok (.iconst 0, 1) := by decide +kernel
theorem d_X12_like_82 : decode prog_14_method_78_code 82 = .ok (.istore_n 2, 1) := by decide +kernel
theorem d_X12_like_83 : decode prog_14_method_78_code 83 = .ok (.iconst 0, 1) := by decide +kernel
theorem d_X12_like_84 : decode prog_14_method_78_code 84 = .ok (.istore_n 3, 1) := by decide +kernel
theorem d_X12_like_85 : decode prog_14_method_78_code 85 = .ok (.iload_n 3, 1) := by decide +kernel
theorem d_X12_like_86 : decode prog_14_method_78_code 86 = .ok (.aload_n 0, 1) := by decide +kernel
theorem d_X12_like_87 : decode prog_14_method_78_code 87 = .ok (.getfield 354, 3) := by decide +kernel
theorem d_X12_like_90 : decode prog_14_method_78_code 90 = .ok (.if_icmp .ge 36, 3) := by decide +kernel
theorem d_X12_like_93 : decode prog_14_method_78_code 93 = .ok (.iload_n 2, 1) := by decide +kernel
theorem d_X12_like_94 : decode prog_14_method_78_code 94 = .ok (.ifCond .eq 32, 3) := by decide +kernel
theorem d_X12_like_97 : decode prog_14_method_78_code 97 = .ok (.aload_n 0, 1) := by decide +kernel
theorem d_X12_like_98 : decode prog_14_method_78_code 98 = .ok (.iconst 0, 1) := by decide +kernel
theorem d_X12_like_99 : decode prog_14_method_78_code 99 = .ok (.iload_n 1, 1) := by decide +kernel
theorem d_X12_like_100 : decode prog_14_method_78_code 100 = .ok (.iload_n 3, 1) := by decide +kernel
theorem d_X12_like_101 : decode prog_14_method_78_code 101 = .ok (.invokevirtual 466, 3) := by decide +kernel
theorem d_X12_like_104 : decode prog_14_method_78_code 104 = .ok (.aload_n 0, 1) := by decide +kernel
theorem d_X12_like_105 : decode prog_14_method_78_code 105 = .ok (.iconst 1, 1) := by decide +kernel
theorem d_X12_like_106 : decode prog_14_method_78_code 106 = .ok (.iload_n 1, 1) := by decide +kernel
theorem d_X12_like_107 : decode prog_14_method_78_code 107 = .ok (.iload_n 3, 1) := by decide +kernel
theorem d_X12_like_108 : decode prog_14_method_78_code 108 = .ok (.invokevirtual 466, 3) := by decide +kernel
theorem d_X12_like_111 : decode prog_14_method_78_code 111 = .ok (.if_icmp .ne 7, 3) := by decide +kernel
theorem d_X12_like_114 : decode prog_14_method_78_code 114 = .ok (.iconst 1, 1) := by decide +kernel
theorem d_X12_like_115 : decode prog_14_method_78_code 115 = .ok (.goto 4, 3) := by decide +kernel
theorem d_X12_like_118 : decode prog_14_method_78_code 118 = .ok (.iconst 0, 1) := by decide +kernel
theorem d_X12_like_119 : decode prog_14_method_78_code 119 = .ok (.istore_n 2, 1) := by decide +kernel
theorem d_X12_like_120 : decode prog_14_method_78_code 120 = .ok (.iinc 3 1, 3) := by decide +kernel
theorem d_X12_like_123 : decode prog_14_method_78_code 123 = .ok (.goto (-38), 3) := by decide +kernel
theorem d_X12_like_126 : decode prog_14_method_78_code 126 = .ok (.iconst 0, 1) := by decide +kernel
theorem d_X12_like_127 : decode prog_14_method_78_code 127 = .ok (.istore_n 3, 1) := by decide +kernel
theorem d_X12_like_128 : decode prog_14_method_78_code 128 = .ok (.iload_n 3, 1) := by decide +kernel
theorem d_X12_like_129 : decode prog_14_method_78_code 129 = .ok (.aload_n 0, 1) := by decide +kernel
theorem d_X12_like_130 : decode prog_14_method_78_code 130 = .ok (.getfield 182, 3) := by decide +kernel
theorem d_X12_like_133 : decode prog_14_method_78_code 133 = .ok (.if_icmp .ge 45, 3) := by decide +kernel
theorem d_X12_like_136 : decode prog_14_method_78_code 136 = .ok (.iload_n 2, 1) := by decide +kernel
theorem d_X12_like_137 : decode prog_14_method_78_code 137 = .ok (.ifCond .eq 41, 3) := by decide +kernel
theorem d_X12_like_140 : decode prog_14_method_78_code 140 = .ok (.aload_n 0, 1) := by decide +kernel
theorem d_X12_like_141 : decode prog_14_method_78_code 141 = .ok (.iconst 0, 1) := by decide +kernel
theorem d_X12_like_142 : decode prog_14_method_78_code 142 = .ok (.aload_n 0, 1) := by decide +kernel
theorem d_X12_like_143 : decode prog_14_method_78_code 143 = .ok (.getfield 55, 3) := by decide +kernel
theorem d_X12_like_146 : decode prog_14_method_78_code 146 = .ok (.iload_n 3, 1) := by decide +kernel
theorem d_X12_like_147 : decode prog_14_method_78_code 147 = .ok (.iaload, 1) := by decide +kernel
theorem d_X12_like_148 : decode prog_14_method_78_code 148 = .ok (.invokevirtual 469, 3) := by decide +kernel
theorem d_X12_like_151 : decode prog_14_method_78_code 151 = .ok (.aload_n 0, 1) := by decide +kernel
theorem d_X12_like_152 : decode prog_14_method_78_code 152 = .ok (.iconst 1, 1) := by decide +kernel
theorem d_X12_like_153 : decode prog_14_method_78_code 153 = .ok (.aload_n 0, 1) := by decide +kernel
theorem d_X12_like_154 : decode prog_14_method_78_code 154 = .ok (.iconst 1, 1) := by decide +kernel
theorem d_X12_like_155 : decode prog_14_method_78_code 155 = .ok (.iload_n 1, 1) := by decide +kernel
theorem d_X12_like_156 : decode prog_14_method_78_code 156 = .ok (.iload_n 3, 1) := by decide +kernel
theorem d_X12_like_157 : decode prog_14_method_78_code 157 = .ok (.invokevirtual 450, 3) := by decide +kernel
theorem d_X12_like_160 : decode prog_14_method_78_code 160 = .ok (.invokevirtual 469, 3) := by decide +kernel
theorem d_X12_like_163 : decode prog_14_method_78_code 163 = .ok (.if_icmp .ne 7, 3) := by decide +kernel
theorem d_X12_like_166 : decode prog_14_method_78_code 166 = .ok (.iconst 1, 1) := by decide +kernel
theorem d_X12_like_167 : decode prog_14_method_78_code 167 = .ok (.goto 4, 3) := by decide +kernel
theorem d_X12_like_170 : decode prog_14_method_78_code 170 = .ok (.iconst 0, 1) := by decide +kernel
theorem d_X12_like_171 : decode prog_14_method_78_code 171 = .ok (.istore_n 2, 1) := by decide +kernel
theorem d_X12_like_172 : decode prog_14_method_78_code 172 = .ok (.iinc 3 1, 3) := by decide +kernel
theorem d_X12_like_175 : decode prog_14_method_78_code 175 = .ok (.goto (-47), 3) := by decide +kernel
theorem d_X12_like_178 : decode prog_14_method_78_code 178 = .ok (.iconst 0, 1) := by decide +kernel
theorem d_X12_like_179 : decode prog_14_method_78_code 179 = .ok (.istore_n 3, 1) := by decide +kernel
theorem d_X12_like_180 : decode prog_14_method_78_code 180 = .ok (.iload_n 3, 1) := by decide +kernel
theorem d_X12_like_181 : decode prog_14_method_78_code 181 = .ok (.aload_n 0, 1) := by decide +kernel
theorem d_X12_like_182 : decode prog_14_method_78_code 182 = .ok (.getfield 170, 3) := by decide +kernel
theorem d_X12_like_185 : decode prog_14_method_78_code 185 = .ok (.iconst 0, 1) := by decide +kernel
theorem d_X12_like_186 : decode prog_14_method_78_code 186 = .ok (.iaload, 1) := by decide +kernel
theorem d_X12_like_187 : decode prog_14_method_78_code 187 = .ok (.if_icmp .ge 131, 3) := by decide +kernel
theorem d_X12_like_190 : decode prog_14_method_78_code 190 = .ok (.iload_n 2, 1) := by decide +kernel
theorem d_X12_like_191 : decode prog_14_method_78_code 191 = .ok (.ifCond .eq 127, 3) := by decide +kernel
theorem d_X12_like_194 : decode prog_14_method_78_code 194 = .ok (.aload_n 0, 1) := by decide +kernel
theorem d_X12_like_195 : decode prog_14_method_78_code 195 = .ok (.getfield 164, 3) := by decide +kernel
theorem d_X12_like_198 : decode prog_14_method_78_code 198 = .ok (.iload_n 3, 1) := by decide +kernel
theorem d_X12_like_199 : decode prog_14_method_78_code 199 = .ok (.iaload, 1) := by decide +kernel
theorem d_X12_like_200 : decode prog_14_method_78_code 200 = .ok (.istore 4, 2) := by decide +kernel
theorem d_X12_like_202 : decode prog_14_method_78_code 202 = .ok (.aload_n 0, 1) := by decide +kernel
theorem d_X12_like_203 : decode prog_14_method_78_code 203 = .ok (.getfield 164, 3) := by decide +kernel
theorem d_X12_like_206 : decode prog_14_method_78_code 206 = .ok (.sipush 400, 3) := by decide +kernel
theorem d_X12_like_209 : decode prog_14_method_78_code 209 = .ok (.iload_n 3, 1) := by decide +kernel
theorem d_X12_like_210 : decode prog_14_method_78_code 210 = .ok (.iadd, 1) := by decide +kernel
theorem d_X12_like_211 : decode prog_14_method_78_code 211 = .ok (.iaload, 1) := by decide +kernel
theorem d_X12_like_212 : decode prog_14_method_78_code 212 = .ok (.istore 5, 2) := by decide +kernel
theorem d_X12_like_214 : decode prog_14_method_78_code 214 = .ok (.aload_n 0, 1) := by decide +kernel
theorem d_X12_like_215 : decode prog_14_method_78_code 215 = .ok (.getfield 49, 3) := by decide +kernel
theorem d_X12_like_218 : decode prog_14_method_78_code 218 = .ok (.iload 4, 2) := by decide +kernel
theorem d_X12_like_220 : decode prog_14_method_78_code 220 = .ok (.iaload, 1) := by decide +kernel
theorem d_X12_like_221 : decode prog_14_method_78_code 221 = .ok (.aload_n 0, 1) := by decide +kernel
theorem d_X12_like_222 : decode prog_14_method_78_code 222 = .ok (.iconst 1, 1) := by decide +kernel
theorem d_X12_like_223 : decode prog_14_method_78_code 223 = .ok (.iload_n 1, 1) := by decide +kernel
theorem d_X12_like_224 : decode prog_14_method_78_code 224 = .ok (.iload 5, 2) := by decide +kernel
theorem d_X12_like_226 : decode prog_14_method_78_code 226 = .ok (.invokevirtual 457, 3) := by decide +kernel
theorem d_X12_like_229 : decode prog_14_method_78_code 229 = .ok (.if_icmp .ne 7, 3) := by decide +kernel
theorem d_X12_like_232 : decode prog_14_method_78_code 232 = .ok (.iconst 1, 1) := by decide +kernel
theorem d_X12_like_233 : decode prog_14_method_78_code 233 = .ok (.goto 4, 3) := by decide +kernel
theorem d_X12_like_236 : decode prog_14_method_78_code 236 = .ok (.iconst 0, 1) := by decide +kernel
theorem d_X12_like_237 : decode prog_14_method_78_code 237 = .ok (.istore_n 2, 1) := by decide +kernel
theorem d_X12_like_238 : decode prog_14_method_78_code 238 = .ok (.iconst 0, 1) := by decide +kernel
theorem d_X12_like_239 : decode prog_14_method_78_code 239 = .ok (.istore 6, 2) := by decide +kernel
theorem d_X12_like_241 : decode prog_14_method_78_code 241 = .ok (.iload_n 2, 1) := by decide +kernel
theorem d_X12_like_242 : decode prog_14_method_78_code 242 = .ok (.ifCond .eq 70, 3) := by decide +kernel
theorem d_X12_like_245 : decode prog_14_method_78_code 245 = .ok (.iload 6, 2) := by decide +kernel
theorem d_X12_like_247 : decode prog_14_method_78_code 247 = .ok (.aload_n 0, 1) := by decide +kernel
theorem d_X12_like_248 : decode prog_14_method_78_code 248 = .ok (.getfield 21, 3) := by decide +kernel
theorem d_X12_like_251 : decode prog_14_method_78_code 251 = .ok (.aload_n 0, 1) := by decide +kernel
theorem d_X12_like_252 : decode prog_14_method_78_code 252 = .ok (.getfield 49, 3) := by decide +kernel
theorem d_X12_like_255 : decode prog_14_method_78_code 255 = .ok (.iload 4, 2) := by decide +kernel
theorem d_X12_like_257 : decode prog_14_method_78_code 257 = .ok (.iaload, 1) := by decide +kernel
theorem d_X12_like_258 : decode prog_14_method_78_code 258 = .ok (.iaload, 1) := by decide +kernel
theorem d_X12_like_259 : decode prog_14_method_78_code 259 = .ok (.if_icmp .ge 53, 3) := by decide +kernel
theorem d_X12_like_262 : decode prog_14_method_78_code 262 = .ok (.aload_n 0, 1) := by decide +kernel
theorem d_X12_like_263 : decode prog_14_method_78_code 263 = .ok (.iconst 0, 1) := by decide +kernel
theorem d_X12_like_264 : decode prog_14_method_78_code 264 = .ok (.aload_n 0, 1) := by decide +kernel
theorem d_X12_like_265 : decode prog_14_method_78_code 265 = .ok (.getfield 52, 3) := by decide +kernel
theorem d_X12_like_268 : decode prog_14_method_78_code 268 = .ok (.iconst 5, 1) := by decide +kernel
theorem d_X12_like_269 : decode prog_14_method_78_code 269 = .ok (.iload 4, 2) := by decide +kernel
theorem d_X12_like_271 : decode prog_14_method_78_code 271 = .ok (.imul, 1) := by decide +kernel
theorem d_X12_like_272 : decode prog_14_method_78_code 272 = .ok (.iload 6, 2) := by decide +kernel
theorem d_X12_like_274 : decode prog_14_method_78_code 274 = .ok (.iadd, 1) := by decide +kernel
theorem d_X12_like_275 : decode prog_14_method_78_code 275 = .ok (.iaload, 1) := by decide +kernel
theorem d_X12_like_276 : decode prog_14_method_78_code 276 = .ok (.invokevirtual 469, 3) := by decide +kernel
theorem d_X12_like_279 : decode prog_14_method_78_code 279 = .ok (.aload_n 0, 1) := by decide +kernel
theorem d_X12_like_280 : decode prog_14_method_78_code 280 = .ok (.iconst 1, 1) := by decide +kernel
theorem d_X12_like_281 : decode prog_14_method_78_code 281 = .ok (.aload_n 0, 1) := by decide +kernel
theorem d_X12_like_282 : decode prog_14_method_78_code 282 = .ok (.iconst 1, 1) := by decide +kernel
theorem d_X12_like_283 : decode prog_14_method_78_code 283 = .ok (.iload_n 1, 1) := by decide +kernel
theorem d_X12_like_284 : decode prog_14_method_78_code 284 = .ok (.iconst 5, 1) := by decide +kernel
theorem d_X12_like_285 : decode prog_14_method_78_code 285 = .ok (.iload 5, 2) := by decide +kernel
theorem d_X12_like_287 : decode prog_14_method_78_code 287 = .ok (.imul, 1) := by decide +kernel
theorem d_X12_like_288 : decode prog_14_method_78_code 288 = .ok (.iload 6, 2) := by decide +kernel
theorem d_X12_like_290 : decode prog_14_method_78_code 290 = .ok (.iadd, 1) := by decide +kernel
theorem d_X12_like_291 : decode prog_14_method_78_code 291 = .ok (.invokevirtual 460, 3) := by decide +kernel
theorem d_X12_like_294 : decode prog_14_method_78_code 294 = .ok (.invokevirtual 469, 3) := by decide +kernel
theorem d_X12_like_297 : decode prog_14_method_78_code 297 = .ok (.if_icmp .ne 7, 3) := by decide +kernel
theorem d_X12_like_300 : decode prog_14_method_78_code 300 = .ok (.iconst 1, 1) := by decide +kernel
theorem d_X12_like_301 : decode prog_14_method_78_code 301 = .ok (.goto 4, 3) := by decide +kernel
theorem d_X12_like_304 : decode prog_14_method_78_code 304 = .ok (.iconst 0, 1) := by decide +kernel
theorem d_X12_like_305 : decode prog_14_method_78_code 305 = .ok (.istore_n 2, 1) := by decide +kernel
theorem d_X12_like_306 : decode prog_14_method_78_code 306 = .ok (.iinc 6 1, 3) := by decide +kernel
theorem d_X12_like_309 : decode prog_14_method_78_code 309 = .ok (.goto (-68), 3) := by decide +kernel
theorem d_X12_like_312 : decode prog_14_method_78_code 312 = .ok (.iinc 3 1, 3) := by decide +kernel
theorem d_X12_like_315 : decode prog_14_method_78_code 315 = .ok (.goto (-135), 3) := by decide +kernel
theorem d_X12_like_318 : decode prog_14_method_78_code 318 = .ok (.iload_n 2, 1) := by decide +kernel
theorem d_X12_like_319 : decode prog_14_method_78_code 319 = .ok (.ifCond .eq 7, 3) := by decide +kernel
theorem d_X12_like_322 : decode prog_14_method_78_code 322 = .ok (.iconst 1, 1) := by decide +kernel
theorem d_X12_like_323 : decode prog_14_method_78_code 323 = .ok (.goto 4, 3) := by decide +kernel
theorem d_X12_like_326 : decode prog_14_method_78_code 326 = .ok (.iconst 0, 1) := by decide +kernel
theorem d_X12_like_327 : decode prog_14_method_78_code 327 = .ok (.ireturn, 1) := by decide +kernel
theorem d_X12_takeWord_0 : decode prog_14_method_12_code 0 = .ok (.aload_n 0, 1) := by decide +kernel
theorem d_X12_takeWord_1 : decode prog_14_method_12_code 1 = .ok (.lconst 0, 1) := by decide +kernel
theorem d_X12_takeWord_2 : decode prog_14_method_12_code 2 = .ok (.putfield 225, 3) := by decide +kernel
theorem d_X12_takeWord_5 : decode prog_14_method_12_code 5 = .ok (.aload_n 0, 1) := by decide +kernel
theorem d_X12_takeWord_6 : decode prog_14_method_12_code 6 = .ok (.iconst 0, 1) := by decide +kernel
theorem d_X12_takeWord_7 : decode prog_14_method_12_code 7 = .ok (.putfield 228, 3) := by decide +kernel
theorem d_X12_takeWord_10 : decode prog_14_method_12_code 10 = .ok (.iload_n 1, 1) := by decide +kernel
theorem d_X12_takeWord_11 : decode prog_14_method_12_code 11 = .ok (.invokestatic 208, 3) := by decide +kernel
theorem d_X12_takeWord_14 : decode prog_14_method_12_code 14 = .ok (.istore_n 2, 1) := by decide +kernel
theorem d_X12_takeWord_15 : decode prog_14_method_12_code 15 = .ok (.iload_n 1, 1) := by decide +kernel
theorem d_X12_takeWord_16 : decode prog_14_method_12_code 16 = .ok (.invokestatic 212, 3) := by decide +kernel
theorem d_X12_takeWord_19 : decode prog_14_method_12_code 19 = .ok (.istore_n 3, 1) := by decide +kernel
theorem d_X12_takeWord_20 : decode prog_14_method_12_code 20 = .ok (.aload_n 0, 1) := by decide +kernel
theorem d_X12_takeWord_21 : decode prog_14_method_12_code 21 = .ok (.aload_n 0, 1) := by decide +kernel
theorem d_X12_takeWord_22 : decode prog_14_method_12_code 22 = .ok (.getfield 195, 3) := by decide +kernel
theorem d_X12_takeWord_25 : decode prog_14_method_12_code 25 = .ok (.invokevirtual 198, 3) := by decide +kernel
theorem d_X12_takeWord_28 : decode prog_14_method_12_code 28 = .ok (.invokestatic 208, 3) := by decide +kernel
theorem d_X12_takeWord_31 : decode prog_14_method_12_code 31 = .ok (.ifCond .ne 31, 3) := by decide +kernel
theorem d_X12_takeWord_34 : decode prog_14_method_12_code 34 = .ok (.aload_n 0, 1) := by decide +kernel
theorem d_X12_takeWord_35 : decode prog_14_method_12_code 35 = .ok (.aload_n 0, 1) := by decide +kernel
theorem d_X12_takeWord_36 : decode prog_14_method_12_code 36 = .ok (.getfield 195, 3) := by decide +kernel
theorem d_X12_takeWord_39 : decode prog_14_method_12_code 39 = .ok (.invokevirtual 198, 3) := by decide +kernel
theorem d_X12_takeWord_42 : decode prog_14_method_12_code 42 = .ok (.invokestatic 212, 3) := by decide +kernel
theorem d_X12_takeWord_45 : decode prog_14_method_12_code 45 = .ok (.ifCond .ne 17, 3) := by decide +kernel
theorem d_X12_takeWord_48 : decode prog_14_method_12_code 48 = .ok (.aload_n 0, 1) := by decide +kernel
theorem d_X12_takeWord_49 : decode prog_14_method_12_code 49 = .ok (.aload_n 0, 1) := by decide +kernel
theorem d_X12_takeWord_50 : decode prog_14_method_12_code 50 = .ok (.getfield 195, 3) := by decide +kernel
theorem d_X12_takeWord_53 : decode prog_14_method_12_code 53 = .ok (.invokevirtual 198, 3) := by decide +kernel
theorem d_X12_takeWord_56 : decode prog_14_method_12_code 56 = .ok (.invokestatic 215, 3) := by decide +kernel
theorem d_X12_takeWord_59 : decode prog_14_method_12_code 59 = .ok (.ifCond .eq 87, 3) := by decide +kernel
theorem d_X12_takeWord_62 : decode prog_14_method_12_code 62 = .ok (.iload_n 2, 1) := by decide +kernel
theorem d_X12_takeWord_63 : decode prog_14_method_12_code 63 = .ok (.ifCond .eq 21, 3) := by decide +kernel
theorem d_X12_takeWord_66 : decode prog_14_method_12_code 66 = .ok (.aload_n 0, 1) := by decide +kernel
theorem d_X12_takeWord_67 : decode prog_14_method_12_code 67 = .ok (.aload_n 0, 1) := by decide +kernel
theorem d_X12_takeWord_68 : decode prog_14_method_12_code 68 = .ok (.getfield 195, 3) := by decide +kernel
theorem d_X12_takeWord_71 : decode prog_14_method_12_code 71 = .ok (.invokevirtual 198, 3) := by decide +kernel
theorem d_X12_takeWord_74 : decode prog_14_method_12_code 74 = .ok (.invokestatic 212, 3) := by decide +kernel
theorem d_X12_takeWord_77 : decode prog_14_method_12_code 77 = .ok (.ifCond .ne 7, 3) := by decide +kernel
theorem d_X12_takeWord_80 : decode prog_14_method_12_code 80 = .ok (.iconst 1, 1) := by decide +kernel
theorem d_X12_takeWord_81 : decode prog_14_method_12_code 81 = .ok (.goto 4, 3) := by decide +kernel
theorem d_X12_takeWord_84 : decode prog_14_method_12_code 84 = .ok (.iconst 0, 1) := by decide +kernel
theorem d_X12_takeWord_85 : decode prog_14_method_12_code 85 = .ok (.istore_n 2, 1) := by decide +kernel
theorem d_X12_takeWord_86 : decode prog_14_method_12_code 86 = .ok (.aload_n 0, 1) := by decide +kernel
theorem d_X12_takeWord_87 : decode prog_14_method_12_code 87 = .ok (.aload_n 0, 1) := by decide +kernel
theorem d_X12_takeWord_88 : decode prog_14_method_12_code 88 = .ok (.getfield 228, 3) := by decide +kernel
theorem d_X12_takeWord_91 : decode prog_14_method_12_code 91 = .ok (.bipush 8, 2) := by decide +kernel
theorem d_X12_takeWord_93 : decode prog_14_method_12_code 93 = .ok (.if_icmp .ge 23, 3) := by decide +kernel
theorem d_X12_takeWord_96 : decode prog_14_method_12_code 96 = .ok (.aload_n 0, 1) := by decide +kernel
theorem d_X12_takeWord_97 : decode prog_14_method_12_code 97 = .ok (.getfield 225, 3) := by decide +kernel
theorem d_X12_takeWord_100 : decode prog_14_method_12_code 100 = .ok (.bipush 8, 2) := by decide +kernel
theorem d_X12_takeWord_102 : decode prog_14_method_12_code 102 = .ok (.lshl, 1) := by decide +kernel
theorem d_X12_takeWord_103 : decode prog_14_method_12_code 103 = .ok (.aload_n 0, 1) := by decide +kernel
theorem d_X12_takeWord_104 : decode prog_14_method_12_code 104 = .ok (.aload_n 0, 1) := by decide +kernel
theorem d_X12_takeWord_105 : decode prog_14_method_12_code 105 = .ok (.getfield 195, 3) := by decide +kernel
theorem d_X12_takeWord_108 : decode prog_14_method_12_code 108 = .ok (.invokevirtual 198, 3) := by decide +kernel
theorem d_X12_takeWord_111 : decode prog_14_method_12_code 111 = .ok (.i2l, 1) := by decide +kernel
theorem d_X12_takeWord_112 : decode prog_14_method_12_code 112 = .ok (.lor, 1) := by decide +kernel
theorem d_X12_takeWord_113 : decode prog_14_method_12_code 113 = .ok (.goto 7, 3) := by decide +kernel
theorem d_X12_takeWord_116 : decode prog_14_method_12_code 116 = .ok (.aload_n 0, 1) := by decide +kernel
theorem d_X12_takeWord_117 : decode prog_14_method_12_code 117 = .ok (.getfield 225, 3) := by decide +kernel
theorem d_X12_takeWord_120 : decode prog_14_method_12_code 120 = .ok (.putfield 225, 3) := by decide +kernel
theorem d_X12_takeWord_123 : decode prog_14_method_12_code 123 = .ok (.aload_n 0, 1) := by decide +kernel
theorem d_X12_takeWord_124 : decode prog_14_method_12_code 124 = .ok (.dup, 1) := by decide +kernel
theorem d_X12_takeWord_125 : decode prog_14_method_12_code 125 = .ok (.getfield 228, 3) := by decide +kernel
theorem d_X12_takeWord_128 : decode prog_14_method_12_code 128 = .ok (.iconst 1, 1) := by decide +kernel
theorem d_X12_takeWord_129 : decode prog_14_method_12_code 129 = .ok (.iadd, 1) := by decide +kernel
theorem d_X12_takeWord_130 : decode prog_14_method_12_code 130 = .ok (.putfield 228, 3) := by decide +kernel
theorem d_X12_takeWord_133 : decode prog_14_method_12_code 133 = .ok (.aload_n 0, 1) := by decide +kernel
theorem d_X12_takeWord_134 : decode prog_14_method_12_code 134 = .ok (.dup, 1) := by decide +kernel
theorem d_X12_takeWord_135 : decode prog_14_method_12_code 135 = .ok (.getfield 195, 3) := by decide +kernel
theorem d_X12_takeWord_138 : decode prog_14_method_12_code 138 = .ok (.iconst 1, 1) := by decide +kernel
theorem d_X12_takeWord_139 : decode prog_14_method_12_code 139 = .ok (.iadd, 1) := by decide +kernel
theorem d_X12_takeWord_140 : decode prog_14_method_12_code 140 = .ok (.putfield 195, 3) := by decide +kernel
theorem d_X12_takeWord_143 : decode prog_14_method_12_code 143 = .ok (.goto (-123), 3) := by decide +kernel
theorem d_X12_takeWord_146 : decode prog_14_method_12_code 146 = .ok (.aload_n 0, 1) := by decide +kernel
theorem d_X12_takeWord_147 : decode prog_14_method_12_code 147 = .ok (.aload_n 0, 1) := by decide +kernel
theorem d_X12_takeWord_148 : decode prog_14_method_12_code 148 = .ok (.getfield 228, 3) := by decide +kernel
theorem d_X12_takeWord_151 : decode prog_14_method_12_code 151 = .ok (.bipush 8, 2) := by decide +kernel
theorem d_X12_takeWord_153 : decode prog_14_method_12_code 153 = .ok (.if_icmp .le 8, 3) := by decide +kernel
theorem d_X12_takeWord_156 : decode prog_14_method_12_code 156 = .ok (.bipush 6, 2) := by decide +kernel
theorem d_X12_takeWord_158 : decode prog_14_method_12_code 158 = .ok (.goto 21, 3) := by decide +kernel
theorem d_X12_takeWord_161 : decode prog_14_method_12_code 161 = .ok (.iload_n 2, 1) := by decide +kernel
theorem d_X12_takeWord_162 : decode prog_14_method_12_code 162 = .ok (.ifCond .eq 7, 3) := by decide +kernel
theorem d_X12_takeWord_165 : decode prog_14_method_12_code 165 = .ok (.iconst 1, 1) := by decide +kernel
theorem d_X12_takeWord_166 : decode prog_14_method_12_code 166 = .ok (.goto 13, 3) := by decide +kernel
theorem d_X12_takeWord_169 : decode prog_14_method_12_code 169 = .ok (.iload_n 3, 1) := by decide +kernel
theorem d_X12_takeWord_170 : decode prog_14_method_12_code 170 = .ok (.ifCond .eq 7, 3) := by decide +kernel
theorem d_X12_takeWord_173 : decode prog_14_method_12_code 173 = .ok (.iconst 2, 1) := by decide +kernel
theorem d_X12_takeWord_174 : decode prog_14_method_12_code 174 = .ok (.goto 5, 3) := by decide +kernel
theorem d_X12_takeWord_177 : decode prog_14_method_12_code 177 = .ok (.bipush 6, 2) := by decide +kernel
theorem d_X12_takeWord_179 : decode prog_14_method_12_code 179 = .ok (.putfield 205, 3) := by decide +kernel
theorem d_X12_takeWord_182 : decode prog_14_method_12_code 182 = .ok (.return_, 1) := by decide +kernel
theorem d_X12_take_0 : decode prog_14_method_11_code 0 = .ok (.aload_n 0, 1) := by decide +kernel
theorem d_X12_take_1 : decode prog_14_method_11_code 1 = .ok (.aload_n 0, 1) := by decide +kernel
theorem d_X12_take_2 : decode prog_14_method_11_code 2 = .ok (.getfield 195, 3) := by decide +kernel
theorem d_X12_take_5 : decode prog_14_method_11_code 5 = .ok (.invokevirtual 198, 3) := by decide +kernel
theorem d_X12_take_8 : decode prog_14_method_11_code 8 = .ok (.bipush 32, 2) := by decide +kernel
theorem d_X12_take_10 : decode prog_14_method_11_code 10 = .ok (.if_icmp .eq 16, 3) := by decide +kernel
theorem d_X12_take_13 : decode prog_14_method_11_code 13 = .ok (.aload_n 0, 1) := by decide +kernel
theorem d_X12_take_14 : decode prog_14_method_11_code 14 = .ok (.aload_n 0, 1) := by decide +kernel
theorem d_X12_take_15 : decode prog_14_method_11_code 15 = .ok (.getfield 195, 3) := by decide +kernel
theorem d_X12_take_18 : decode prog_14_method_11_code 18 = .ok (.invokevirtual 198, 3) := by decide +kernel
theorem d_X12_take_21 : decode prog_14_method_11_code 21 = .ok (.bipush 10, 2) := by decide +kernel
theorem d_X12_take_23 : decode prog_14_method_11_code 23 = .ok (.if_icmp .ne 16, 3) := by decide +kernel
theorem d_X12_take_26 : decode prog_14_method_11_code 26 = .ok (.aload_n 0, 1) := by decide +kernel
theorem d_X12_take_27 : decode prog_14_method_11_code 27 = .ok (.dup, 1) := by decide +kernel
theorem d_X12_take_28 : decode prog_14_method_11_code 28 = .ok (.getfield 195, 3) := by decide +kernel
theorem d_X12_take_31 : decode prog_14_method_11_code 31 = .ok (.iconst 1, 1) := by decide +kernel
theorem d_X12_take_32 : decode prog_14_method_11_code 32 = .ok (.iadd, 1) := by decide +kernel
theorem d_X12_take_33 : decode prog_14_method_11_code 33 = .ok (.putfield 195, 3) := by decide +kernel
theorem d_X12_take_36 : decode prog_14_method_11_code 36 = .ok (.goto (-36), 3) := by decide +kernel
theorem d_X12_take_39 : decode prog_14_method_11_code 39 = .ok (.aload_n 0, 1) := by decide +kernel
theorem d_X12_take_40 : decode prog_14_method_11_code 40 = .ok (.aload_n 0, 1) := by decide +kernel
theorem d_X12_take_41 : decode prog_14_method_11_code 41 = .ok (.getfield 195, 3) := by decide +kernel
theorem d_X12_take_44 : decode prog_14_method_11_code 44 = .ok (.putfield 202, 3) := by decide +kernel
theorem d_X12_take_47 : decode prog_14_method_11_code 47 = .ok (.aload_n 0, 1) := by decide +kernel
theorem d_X12_take_48 : decode prog_14_method_11_code 48 = .ok (.getfield 195, 3) := by decide +kernel
theorem d_X12_take_51 : decode prog_14_method_11_code 51 = .ok (.aload_n 0, 1) := by decide +kernel
theorem d_X12_take_52 : decode prog_14_method_11_code 52 = .ok (.getfield 188, 3) := by decide +kernel
theorem d_X12_take_55 : decode prog_14_method_11_code 55 = .ok (.if_icmp .lt 9, 3) := by decide +kernel
theorem d_X12_take_58 : decode prog_14_method_11_code 58 = .ok (.aload_n 0, 1) := by decide +kernel
theorem d_X12_take_59 : decode prog_14_method_11_code 59 = .ok (.iconst 5, 1) := by decide +kernel
theorem d_X12_take_60 : decode prog_14_method_11_code 60 = .ok (.putfield 205, 3) := by decide +kernel
theorem d_X12_take_63 : decode prog_14_method_11_code 63 = .ok (.return_, 1) := by decide +kernel
theorem d_X12_take_64 : decode prog_14_method_11_code 64 = .ok (.aload_n 0, 1) := by decide +kernel
theorem d_X12_take_65 : decode prog_14_method_11_code 65 = .ok (.aload_n 0, 1) := by decide +kernel
theorem d_X12_take_66 : decode prog_14_method_11_code 66 = .ok (.getfield 195, 3) := by decide +kernel
theorem d_X12_take_69 : decode prog_14_method_11_code 69 = .ok (.invokevirtual 198, 3) := by decide +kernel
theorem d_X12_take_72 : decode prog_14_method_11_code 72 = .ok (.istore_n 1, 1) := by decide +kernel
theorem d_X12_take_73 : decode prog_14_method_11_code 73 = .ok (.iload_n 1, 1) := by decide +kernel
theorem d_X12_take_74 : decode prog_14_method_11_code 74 = .ok (.invokestatic 208, 3) := by decide +kernel
theorem d_X12_take_77 : decode prog_14_method_11_code 77 = .ok (.ifCond .ne 17, 3) := by decide +kernel
theorem d_X12_take_80 : decode prog_14_method_11_code 80 = .ok (.iload_n 1, 1) := by decide +kernel
theorem d_X12_take_81 : decode prog_14_method_11_code 81 = .ok (.invokestatic 212, 3) := by decide +kernel
theorem d_X12_take_84 : decode prog_14_method_11_code 84 = .ok (.ifCond .ne 10, 3) := by decide +kernel
theorem d_X12_take_87 : decode prog_14_method_11_code 87 = .ok (.iload_n 1, 1) := by decide +kernel
theorem d_X12_take_88 : decode prog_14_method_11_code 88 = .ok (.invokestatic 215, 3) := by decide +kernel
theorem d_X12_take_91 : decode prog_14_method_11_code 91 = .ok (.ifCond .eq 9, 3) := by decide +kernel
theorem d_X12_take_94 : decode prog_14_method_11_code 94 = .ok (.aload_n 0, 1) := by decide +kernel
theorem d_X12_take_95 : decode prog_14_method_11_code 95 = .ok (.iload_n 1, 1) := by decide +kernel
theorem d_X12_take_96 : decode prog_14_method_11_code 96 = .ok (.invokevirtual 218, 3) := by decide +kernel
theorem d_X12_take_99 : decode prog_14_method_11_code 99 = .ok (.return_, 1) := by decide +kernel
theorem d_X12_take_100 : decode prog_14_method_11_code 100 = .ok (.aload_n 0, 1) := by decide +kernel
theorem d_X12_take_101 : decode prog_14_method_11_code 101 = .ok (.dup, 1) := by decide +kernel
theorem d_X12_take_102 : decode prog_14_method_11_code 102 = .ok (.getfield 195, 3) := by decide +kernel
theorem d_X12_take_105 : decode prog_14_method_11_code 105 = .ok (.iconst 1, 1) := by decide +kernel
theorem d_X12_take_106 : decode prog_14_method_11_code 106 = .ok (.iadd, 1) := by decide +kernel
theorem d_X12_take_107 : decode prog_14_method_11_code 107 = .ok (.putfield 195, 3) := by decide +kernel
theorem d_X12_take_110 : decode prog_14_method_11_code 110 = .ok (.aload_n 0, 1) := by decide +kernel
theorem d_X12_take_111 : decode prog_14_method_11_code 111 = .ok (.iload_n 1, 1) := by decide +kernel
theorem d_X12_take_112 : decode prog_14_method_11_code 112 = .ok (.putfield 222, 3) := by decide +kernel
theorem d_X12_take_115 : decode prog_14_method_11_code 115 = .ok (.iload_n 1, 1) := by decide +kernel
theorem d_X12_take_116 : decode prog_14_method_11_code 116 = .ok (.bipush 62, 2) := by decide +kernel
theorem d_X12_take_118 : decode prog_14_method_11_code 118 = .ok (.if_icmp .ne 32, 3) := by decide +kernel
theorem d_X12_take_121 : decode prog_14_method_11_code 121 = .ok (.aload_n 0, 1) := by decide +kernel
theorem d_X12_take_122 : decode prog_14_method_11_code 122 = .ok (.aload_n 0, 1) := by decide +kernel
theorem d_X12_take_123 : decode prog_14_method_11_code 123 = .ok (.getfield 195, 3) := by decide +kernel
theorem d_X12_take_126 : decode prog_14_method_11_code 126 = .ok (.invokevirtual 198, 3) := by decide +kernel
theorem d_X12_take_129 : decode prog_14_method_11_code 129 = .ok (.bipush 60, 2) := by decide +kernel
theorem d_X12_take_131 : decode prog_14_method_11_code 131 = .ok (.if_icmp .ne 19, 3) := by decide +kernel
theorem d_X12_take_134 : decode prog_14_method_11_code 134 = .ok (.aload_n 0, 1) := by decide +kernel
theorem d_X12_take_135 : decode prog_14_method_11_code 135 = .ok (.dup, 1) := by decide +kernel
theorem d_X12_take_136 : decode prog_14_method_11_code 136 = .ok (.getfield 195, 3) := by decide +kernel
theorem d_X12_take_139 : decode prog_14_method_11_code 139 = .ok (.iconst 1, 1) := by decide +kernel
theorem d_X12_take_140 : decode prog_14_method_11_code 140 = .ok (.iadd, 1) := by decide +kernel
theorem d_X12_take_141 : decode prog_14_method_11_code 141 = .ok (.putfield 195, 3) := by decide +kernel
theorem d_X12_take_144 : decode prog_14_method_11_code 144 = .ok (.aload_n 0, 1) := by decide +kernel
theorem d_X12_take_145 : decode prog_14_method_11_code 145 = .ok (.iconst 4, 1) := by decide +kernel
theorem d_X12_take_146 : decode prog_14_method_11_code 146 = .ok (.putfield 205, 3) := by decide +kernel
theorem d_X12_take_149 : decode prog_14_method_11_code 149 = .ok (.return_, 1) := by decide +kernel
theorem d_X12_take_150 : decode prog_14_method_11_code 150 = .ok (.iload_n 1, 1) := by decide +kernel
theorem d_X12_take_151 : decode prog_14_method_11_code 151 = .ok (.bipush 40, 2) := by decide +kernel
theorem d_X12_take_153 : decode prog_14_method_11_code 153 = .ok (.if_icmp .eq 45, 3) := by decide +kernel
theorem d_X12_take_156 : decode prog_14_method_11_code 156 = .ok (.iload_n 1, 1) := by decide +kernel
theorem d_X12_take_157 : decode prog_14_method_11_code 157 = .ok (.bipush 41, 2) := by decide +kernel
theorem d_X12_take_159 : decode prog_14_method_11_code 159 = .ok (.if_icmp .eq 39, 3) := by decide +kernel
theorem d_X12_take_162 : decode prog_14_method_11_code 162 = .ok (.iload_n 1, 1) := by decide +kernel
theorem d_X12_take_163 : decode prog_14_method_11_code 163 = .ok (.bipush 44, 2) := by decide +kernel
theorem d_X12_take_165 : decode prog_14_method_11_code 165 = .ok (.if_icmp .eq 33, 3) := by decide +kernel
theorem d_X12_take_168 : decode prog_14_method_11_code 168 = .ok (.iload_n 1, 1) := by decide +kernel
theorem d_X12_take_169 : decode prog_14_method_11_code 169 = .ok (.bipush 61, 2) := by decide +kernel
theorem d_X12_take_171 : decode prog_14_method_11_code 171 = .ok (.if_icmp .eq 27, 3) := by decide +kernel
theorem d_X12_take_174 : decode prog_14_method_11_code 174 = .ok (.iload_n 1, 1) := by decide +kernel
theorem d_X12_take_175 : decode prog_14_method_11_code 175 = .ok (.bipush 59, 2) := by decide +kernel
theorem d_X12_take_177 : decode prog_14_method_11_code 177 = .ok (.if_icmp .eq 21, 3) := by decide +kernel
theorem d_X12_take_180 : decode prog_14_method_11_code 180 = .ok (.iload_n 1, 1) := by decide +kernel
theorem d_X12_take_181 : decode prog_14_method_11_code 181 = .ok (.bipush 43, 2) := by decide +kernel
theorem d_X12_take_183 : decode prog_14_method_11_code 183 = .ok (.if_icmp .eq 15, 3) := by decide +kernel
theorem d_X12_take_186 : decode prog_14_method_11_code 186 = .ok (.iload_n 1, 1) := by decide +kernel
theorem d_X12_take_187 : decode prog_14_method_11_code 187 = .ok (.bipush 45, 2) := by decide +kernel
theorem d_X12_take_189 : decode prog_14_method_11_code 189 = .ok (.if_icmp .eq 9, 3) := by decide +kernel
theorem d_X12_take_192 : decode prog_14_method_11_code 192 = .ok (.iload_n 1, 1) := by decide +kernel
theorem d_X12_take_193 : decode prog_14_method_11_code 193 = .ok (.bipush 58, 2) := by decide +kernel
theorem d_X12_take_195 : decode prog_14_method_11_code 195 = .ok (.if_icmp .ne 7, 3) := by decide +kernel
theorem d_X12_take_198 : decode prog_14_method_11_code 198 = .ok (.iconst 1, 1) := by decide +kernel
theorem d_X12_take_199 : decode prog_14_method_11_code 199 = .ok (.goto 4, 3) := by decide +kernel
theorem d_X12_take_202 : decode prog_14_method_11_code 202 = .ok (.iconst 0, 1) := by decide +kernel
theorem d_X12_take_203 : decode prog_14_method_11_code 203 = .ok (.istore_n 2, 1) := by decide +kernel
theorem d_X12_take_204 : decode prog_14_method_11_code 204 = .ok (.aload_n 0, 1) := by decide +kernel
theorem d_X12_take_205 : decode prog_14_method_11_code 205 = .ok (.iload_n 2, 1) := by decide +kernel
theorem d_X12_take_206 : decode prog_14_method_11_code 206 = .ok (.ifCond .eq 7, 3) := by decide +kernel
theorem d_X12_take_209 : decode prog_14_method_11_code 209 = .ok (.iconst 3, 1) := by decide +kernel
theorem d_X12_take_210 : decode prog_14_method_11_code 210 = .ok (.goto 5, 3) := by decide +kernel
theorem d_X12_take_213 : decode prog_14_method_11_code 213 = .ok (.bipush 6, 2) := by decide +kernel
theorem d_X12_take_215 : decode prog_14_method_11_code 215 = .ok (.putfield 205, 3) := by decide +kernel
theorem d_X12_take_218 : decode prog_14_method_11_code 218 = .ok (.return_, 1) := by decide +kernel
theorem d_X12_wrong_0 : decode prog_14_method_15_code 0 = .ok (.aload_n 0, 1) := by decide +kernel
theorem d_X12_wrong_1 : decode prog_14_method_15_code 1 = .ok (.aload_n 0, 1) := by decide +kernel
theorem d_X12_wrong_2 : decode prog_14_method_15_code 2 = .ok (.getfield 205, 3) := by decide +kernel
theorem d_X12_wrong_5 : decode prog_14_method_15_code 5 = .ok (.bipush 6, 2) := by decide +kernel
theorem d_X12_wrong_7 : decode prog_14_method_15_code 7 = .ok (.if_icmp .ne 7, 3) := by decide +kernel
theorem d_X12_wrong_10 : decode prog_14_method_15_code 10 = .ok (.iconst 1, 1) := by decide +kernel
theorem d_X12_wrong_11 : decode prog_14_method_15_code 11 = .ok (.goto 4, 3) := by decide +kernel
theorem d_X12_wrong_14 : decode prog_14_method_15_code 14 = .ok (.iconst 2, 1) := by decide +kernel
theorem d_X12_wrong_15 : decode prog_14_method_15_code 15 = .ok (.aload_n 0, 1) := by decide +kernel
theorem d_X12_wrong_16 : decode prog_14_method_15_code 16 = .ok (.getfield 202, 3) := by decide +kernel
theorem d_X12_wrong_19 : decode prog_14_method_15_code 19 = .ok (.invokevirtual 234, 3) := by decide +kernel
theorem d_X12_wrong_22 : decode prog_14_method_15_code 22 = .ok (.ireturn, 1) := by decide +kernel
theorem d_X12_needs_0 : decode prog_14_method_16_code 0 = .ok (.aload_n 0, 1) := by decide +kernel
theorem d_X12_needs_1 : decode prog_14_method_16_code 1 = .ok (.iload_n 1, 1) := by decide +kernel
theorem d_X12_needs_2 : decode prog_14_method_16_code 2 = .ok (.invokevirtual 238, 3) := by decide +kernel
theorem d_X12_needs_5 : decode prog_14_method_16_code 5 = .ok (.ifCond .ne 8, 3) := by decide +kernel
theorem d_X12_needs_8 : decode prog_14_method_16_code 8 = .ok (.aload_n 0, 1) := by decide +kernel
theorem d_X12_needs_9 : decode prog_14_method_16_code 9 = .ok (.invokevirtual 241, 3) := by decide +kernel
theorem d_X12_needs_12 : decode prog_14_method_16_code 12 = .ok (.ireturn, 1) := by decide +kernel
theorem d_X12_needs_13 : decode prog_14_method_16_code 13 = .ok (.aload_n 0, 1) := by decide +kernel
theorem d_X12_needs_14 : decode prog_14_method_16_code 14 = .ok (.invokevirtual 245, 3) := by decide +kernel
theorem d_X12_needs_17 : decode prog_14_method_16_code 17 = .ok (.iconst 1, 1) := by decide +kernel
theorem d_X12_needs_18 : decode prog_14_method_16_code 18 = .ok (.ireturn, 1) := by decide +kernel
theorem d_X12_out_0 : decode prog_14_method_83_code 0 = .ok (.iload_n 1, 1) := by decide +kernel
theorem d_X12_out_1 : decode prog_14_method_83_code 1 = .ok (.i2l, 1) := by decide +kernel
theorem d_X12_out_2 : decode prog_14_method_83_code 2 = .ok (.lconst 0, 1) := by decide +kernel
theorem d_X12_out_3 : decode prog_14_method_83_code 3 = .ok (.aload_n 0, 1) := by decide +kernel
theorem d_X12_out_4 : decode prog_14_method_83_code 4 = .ok (.getfield 401, 3) := by decide +kernel
theorem d_X12_out_7 : decode prog_14_method_83_code 7 = .ok (.iconst 1, 1) := by decide +kernel
theorem d_X12_out_8 : decode prog_14_method_83_code 8 = .ok (.isub, 1) := by decide +kernel
theorem d_X12_out_9 : decode prog_14_method_83_code 9 = .ok (.i2l, 1) := by decide +kernel
theorem d_X12_out_10 : decode prog_14_method_83_code 10 = .ok (.invokestatic 191, 3) := by decide +kernel
theorem d_X12_out_13 : decode prog_14_method_83_code 13 = .ok (.ifCond .eq 12, 3) := by decide +kernel
theorem d_X12_out_16 : decode prog_14_method_83_code 16 = .ok (.aload_n 0, 1) := by decide +kernel
theorem d_X12_out_17 : decode prog_14_method_83_code 17 = .ok (.getfield 65, 3) := by decide +kernel
theorem d_X12_out_20 : decode prog_14_method_83_code 20 = .ok (.iload_n 1, 1) := by decide +kernel
theorem d_X12_out_21 : decode prog_14_method_83_code 21 = .ok (.iaload, 1) := by decide +kernel
theorem d_X12_out_22 : decode prog_14_method_83_code 22 = .ok (.goto 4, 3) := by decide +kernel
theorem d_X12_out_25 : decode prog_14_method_83_code 25 = .ok (.iconst (-1), 1) := by decide +kernel
theorem d_X12_out_26 : decode prog_14_method_83_code 26 = .ok (.ireturn, 1) := by decide +kernel
theorem d_X12_place_0 : decode prog_14_method_39_code 0 = .ok (.aload_n 0, 1) := by decide +kernel
theorem d_X12_place_1 : decode prog_14_method_39_code 1 = .ok (.getfield 13, 3) := by decide +kernel
theorem d_X12_place_4 : decode prog_14_method_39_code 4 = .ok (.ireturn, 1) := by decide +kernel
theorem d_X12_put_0 : decode prog_14_method_80_code 0 = .ok (.aload_n 0, 1) := by decide +kernel
theorem d_X12_put_1 : decode prog_14_method_80_code 1 = .ok (.getfield 401, 3) := by decide +kernel
theorem d_X12_put_4 : decode prog_14_method_80_code 4 = .ok (.sipush 4000, 3) := by decide +kernel
theorem d_X12_put_7 : decode prog_14_method_80_code 7 = .ok (.if_icmp .ge 23, 3) := by decide +kernel
theorem d_X12_put_10 : decode prog_14_method_80_code 10 = .ok (.aload_n 0, 1) := by decide +kernel
theorem d_X12_put_11 : decode prog_14_method_80_code 11 = .ok (.getfield 65, 3) := by decide +kernel
theorem d_X12_put_14 : decode prog_14_method_80_code 14 = .ok (.aload_n 0, 1) := by decide +kernel
theorem d_X12_put_15 : decode prog_14_method_80_code 15 = .ok (.getfield 401, 3) := by decide +kernel
theorem d_X12_put_18 : decode prog_14_method_80_code 18 = .ok (.iload_n 1, 1) := by decide +kernel
theorem d_X12_put_19 : decode prog_14_method_80_code 19 = .ok (.iastore, 1) := by decide +kernel
theorem d_X12_put_20 : decode prog_14_method_80_code 20 = .ok (.aload_n 0, 1) := by decide +kernel
theorem d_X12_put_21 : decode prog_14_method_80_code 21 = .ok (.dup, 1) := by decide +kernel
theorem d_X12_put_22 : decode prog_14_method_80_code 22 = .ok (.getfield 401, 3) := by decide +kernel
theorem d_X12_put_25 : decode prog_14_method_80_code 25 = .ok (.iconst 1, 1) := by decide +kernel
theorem d_X12_put_26 : decode prog_14_method_80_code 26 = .ok (.iadd, 1) := by decide +kernel
theorem d_X12_put_27 : decode prog_14_method_80_code 27 = .ok (.putfield 401, 3) := by decide +kernel
theorem d_X12_put_30 : decode prog_14_method_80_code 30 = .ok (.return_, 1) := by decide +kernel
theorem d_X12_putName_0 : decode prog_14_method_81_code 0 = .ok (.bipush 56, 2) := by decide +kernel
theorem d_X12_putName_2 : decode prog_14_method_81_code 2 = .ok (.istore_n 3, 1) := by decide +kernel
theorem d_X12_putName_3 : decode prog_14_method_81_code 3 = .ok (.iload_n 3, 1) := by decide +kernel
theorem d_X12_putName_4 : decode prog_14_method_81_code 4 = .ok (.ifCond .lt 30, 3) := by decide +kernel
theorem d_X12_putName_7 : decode prog_14_method_81_code 7 = .ok (.lload_n 1, 1) := by decide +kernel
theorem d_X12_putName_8 : decode prog_14_method_81_code 8 = .ok (.iload_n 3, 1) := by decide +kernel
theorem d_X12_putName_9 : decode prog_14_method_81_code 9 = .ok (.lshr, 1) := by decide +kernel
theorem d_X12_putName_10 : decode prog_14_method_81_code 10 = .ok (.ldc2_w 472, 3) := by decide +kernel
theorem d_X12_putName_13 : decode prog_14_method_81_code 13 = .ok (.land, 1) := by decide +kernel
theorem d_X12_putName_14 : decode prog_14_method_81_code 14 = .ok (.l2i, 1) := by decide +kernel
theorem d_X12_putName_15 : decode prog_14_method_81_code 15 = .ok (.istore 4, 2) := by decide +kernel
theorem d_X12_putName_17 : decode prog_14_method_81_code 17 = .ok (.iload 4, 2) := by decide +kernel
theorem d_X12_putName_19 : decode prog_14_method_81_code 19 = .ok (.ifCond .le 9, 3) := by decide +kernel
theorem d_X12_putName_22 : decode prog_14_method_81_code 22 = .ok (.aload_n 0, 1) := by decide +kernel
theorem d_X12_putName_23 : decode prog_14_method_81_code 23 = .ok (.iload 4, 2) := by decide +kernel
theorem d_X12_putName_25 : decode prog_14_method_81_code 25 = .ok (.invokevirtual 474, 3) := by decide +kernel
theorem d_X12_putName_28 : decode prog_14_method_81_code 28 = .ok (.iinc 3 (-8), 3) := by decide +kernel
theorem d_X12_putName_31 : decode prog_14_method_81_code 31 = .ok (.goto (-28), 3) := by decide +kernel
theorem d_X12_putName_34 : decode prog_14_method_81_code 34 = .ok (.return_, 1) := by decide +kernel
theorem d_X12_print_0 : decode prog_14_method_82_code 0 = .ok (.iload_n 1, 1) := by decide +kernel
theorem d_X12_print_1 : decode prog_14_method_82_code 1 = .ok (.i2l, 1) := by decide +kernel
theorem d_X12_print_2 : decode prog_14_method_82_code 2 = .ok (.lconst 0, 1) := by decide +kernel
theorem d_X12_print_3 : decode prog_14_method_82_code 3 = .ok (.aload_n 0, 1) := by decide +kernel
theorem d_X12_print_4 : decode prog_14_method_82_code 4 = .ok (.getfield 182, 3) := by decide +kernel
theorem d_X12_print_7 : decode prog_14_method_82_code 7 = .ok (.iconst 1, 1) := by decide +kernel
theorem d_X12_print_8 : decode prog_14_method_82_code 8 = .ok (.isub, 1) := by decide +kernel
theorem d_X12_print_9 : decode prog_14_method_82_code 9 = .ok (.i2l, 1) := by decide +kernel
theorem d_X12_print_10 : decode prog_14_method_82_code 10 = .ok (.invokestatic 191, 3) := by decide +kernel
theorem d_X12_print_13 : decode prog_14_method_82_code 13 = .ok (.ifCond .ne 7, 3) := by decide +kernel
theorem d_X12_print_16 : decode prog_14_method_82_code 16 = .ok (.sipush (-1001), 3) := by decide +kernel
theorem d_X12_print_19 : decode prog_14_method_82_code 19 = .ok (.ireturn, 1) := by decide +kernel
theorem d_X12_print_20 : decode prog_14_method_82_code 20 = .ok (.aload_n 0, 1) := by decide +kernel
theorem d_X12_print_21 : decode prog_14_method_82_code 21 = .ok (.iconst 0, 1) := by decide +kernel
theorem d_X12_print_22 : decode prog_14_method_82_code 22 = .ok (.putfield 401, 3) := by decide +kernel
theorem d_X12_print_25 : decode prog_14_method_82_code 25 = .ok (.iconst 0, 1) := by decide +kernel
theorem d_X12_print_26 : decode prog_14_method_82_code 26 = .ok (.istore_n 2, 1) := by decide +kernel
theorem d_X12_print_27 : decode prog_14_method_82_code 27 = .ok (.aload_n 0, 1) := by decide +kernel
theorem d_X12_print_28 : decode prog_14_method_82_code 28 = .ok (.getfield 55, 3) := by decide +kernel
theorem d_X12_print_31 : decode prog_14_method_82_code 31 = .ok (.iload_n 1, 1) := by decide +kernel
theorem d_X12_print_32 : decode prog_14_method_82_code 32 = .ok (.iaload, 1) := by decide +kernel
theorem d_X12_print_33 : decode prog_14_method_82_code 33 = .ok (.istore_n 3, 1) := by decide +kernel
theorem d_X12_print_34 : decode prog_14_method_82_code 34 = .ok (.iconst 1, 1) := by decide +kernel
theorem d_X12_print_35 : decode prog_14_method_82_code 35 = .ok (.istore 4, 2) := by decide +kernel
theorem d_X12_print_37 : decode prog_14_method_82_code 37 = .ok (.iload 4, 2) := by decide +kernel
theorem d_X12_print_39 : decode prog_14_method_82_code 39 = .ok (.ifCond .eq 258, 3) := by decide +kernel
theorem d_X12_print_42 : decode prog_14_method_82_code 42 = .ok (.iconst 0, 1) := by decide +kernel
theorem d_X12_print_43 : decode prog_14_method_82_code 43 = .ok (.istore 5, 2) := by decide +kernel
theorem d_X12_print_45 : decode prog_14_method_82_code 45 = .ok (.iload_n 3, 1) := by decide +kernel
theorem d_X12_print_46 : decode prog_14_method_82_code 46 = .ok (.ifCond .ge 20, 3) := by decide +kernel
theorem d_X12_print_49 : decode prog_14_method_82_code 49 = .ok (.aload_n 0, 1) := by decide +kernel
theorem d_X12_print_50 : decode prog_14_method_82_code 50 = .ok (.bipush 35, 2) := by decide +kernel
theorem d_X12_print_52 : decode prog_14_method_82_code 52 = .ok (.invokevirtual 474, 3) := by decide +kernel
theorem d_X12_print_55 : decode prog_14_method_82_code 55 = .ok (.aload_n 0, 1) := by decide +kernel
theorem d_X12_print_56 : decode prog_14_method_82_code 56 = .ok (.bipush 46, 2) := by decide +kernel
theorem d_X12_print_58 : decode prog_14_method_82_code 58 = .ok (.iload_n 3, 1) := by decide +kernel
theorem d_X12_print_59 : decode prog_14_method_82_code 59 = .ok (.isub, 1) := by decide +kernel
theorem d_X12_print_60 : decode prog_14_method_82_code 60 = .ok (.invokevirtual 474, 3) := by decide +kernel
theorem d_X12_print_63 : decode prog_14_method_82_code 63 = .ok (.goto 106, 3) := by decide +kernel
theorem d_X12_print_66 : decode prog_14_method_82_code 66 = .ok (.iload_n 3, 1) := by decide +kernel
theorem d_X12_print_67 : decode prog_14_method_82_code 67 = .ok (.iconst 5, 1) := by decide +kernel
theorem d_X12_print_68 : decode prog_14_method_82_code 68 = .ok (.irem, 1) := by decide +kernel
theorem d_X12_print_69 : decode prog_14_method_82_code 69 = .ok (.ifCond .eq 12, 3) := by decide +kernel
theorem d_X12_print_72 : decode prog_14_method_82_code 72 = .ok (.aload_n 0, 1) := by decide +kernel
theorem d_X12_print_73 : decode prog_14_method_82_code 73 = .ok (.bipush 64, 2) := by decide +kernel
theorem d_X12_print_75 : decode prog_14_method_82_code 75 = .ok (.invokevirtual 474, 3) := by decide +kernel
theorem d_X12_print_78 : decode prog_14_method_82_code 78 = .ok (.goto 91, 3) := by decide +kernel
theorem d_X12_print_81 : decode prog_14_method_82_code 81 = .ok (.iload_n 2, 1) := by decide +kernel
theorem d_X12_print_82 : decode prog_14_method_82_code 82 = .ok (.bipush 40, 2) := by decide +kernel
theorem d_X12_print_84 : decode prog_14_method_82_code 84 = .ok (.if_icmp .ne 12, 3) := by decide +kernel
theorem d_X12_print_87 : decode prog_14_method_82_code 87 = .ok (.aload_n 0, 1) := by decide +kernel
theorem d_X12_print_88 : decode prog_14_method_82_code 88 = .ok (.bipush 126, 2) := by decide +kernel
theorem d_X12_print_90 : decode prog_14_method_82_code 90 = .ok (.invokevirtual 474, 3) := by decide +kernel
theorem d_X12_print_93 : decode prog_14_method_82_code 93 = .ok (.goto 76, 3) := by decide +kernel
theorem d_X12_print_96 : decode prog_14_method_82_code 96 = .ok (.iload_n 3, 1) := by decide +kernel
theorem d_X12_print_97 : decode prog_14_method_82_code 97 = .ok (.iconst 5, 1) := by decide +kernel
theorem d_X12_print_98 : decode prog_14_method_82_code 98 = .ok (.idiv, 1) := by decide +kernel
theorem d_X12_print_99 : decode prog_14_method_82_code 99 = .ok (.istore 6, 2) := by decide +kernel
theorem d_X12_print_101 : decode prog_14_method_82_code 101 = .ok (.aload_n 0, 1) := by decide +kernel
theorem d_X12_print_102 : decode prog_14_method_82_code 102 = .ok (.aload_n 0, 1) := by decide +kernel
theorem d_X12_print_103 : decode prog_14_method_82_code 103 = .ok (.getfield 17, 3) := by decide +kernel
theorem d_X12_print_106 : decode prog_14_method_82_code 106 = .ok (.aload_n 0, 1) := by decide +kernel
theorem d_X12_print_107 : decode prog_14_method_82_code 107 = .ok (.getfield 49, 3) := by decide +kernel
theorem d_X12_print_110 : decode prog_14_method_82_code 110 = .ok (.iload 6, 2) := by decide +kernel
theorem d_X12_print_112 : decode prog_14_method_82_code 112 = .ok (.iaload, 1) := by decide +kernel
theorem d_X12_print_113 : decode prog_14_method_82_code 113 = .ok (.laload, 1) := by decide +kernel
theorem d_X12_print_114 : decode prog_14_method_82_code 114 = .ok (.invokevirtual 477, 3) := by decide +kernel
theorem d_X12_print_117 : decode prog_14_method_82_code 117 = .ok (.aload_n 0, 1) := by decide +kernel
theorem d_X12_print_118 : decode prog_14_method_82_code 118 = .ok (.getfield 21, 3) := by decide +kernel
theorem d_X12_print_121 : decode prog_14_method_82_code 121 = .ok (.aload_n 0, 1) := by decide +kernel
theorem d_X12_print_122 : decode prog_14_method_82_code 122 = .ok (.getfield 49, 3) := by decide +kernel
theorem d_X12_print_125 : decode prog_14_method_82_code 125 = .ok (.iload 6, 2) := by decide +kernel
theorem d_X12_print_127 : decode prog_14_method_82_code 127 = .ok (.iaload, 1) := by decide +kernel
theorem d_X12_print_128 : decode prog_14_method_82_code 128 = .ok (.iaload, 1) := by decide +kernel
theorem d_X12_print_129 : decode prog_14_method_82_code 129 = .ok (.iconst 1, 1) := by decide +kernel
theorem d_X12_print_130 : decode prog_14_method_82_code 130 = .ok (.if_icmp .le 7, 3) := by decide +kernel
theorem d_X12_print_133 : decode prog_14_method_82_code 133 = .ok (.iconst 1, 1) := by decide +kernel
theorem d_X12_print_134 : decode prog_14_method_82_code 134 = .ok (.goto 4, 3) := by decide +kernel
theorem d_X12_print_137 : decode prog_14_method_82_code 137 = .ok (.iconst 0, 1) := by decide +kernel
theorem d_X12_print_138 : decode prog_14_method_82_code 138 = .ok (.istore 5, 2) := by decide +kernel
theorem d_X12_print_140 : decode prog_14_method_82_code 140 = .ok (.iload 5, 2) := by decide +kernel
theorem d_X12_print_142 : decode prog_14_method_82_code 142 = .ok (.ifCond .eq 27, 3) := by decide +kernel
theorem d_X12_print_145 : decode prog_14_method_82_code 145 = .ok (.aload_n 0, 1) := by decide +kernel
theorem d_X12_print_146 : decode prog_14_method_82_code 146 = .ok (.bipush 40, 2) := by decide +kernel
theorem d_X12_print_148 : decode prog_14_method_82_code 148 = .ok (.invokevirtual 474, 3) := by decide +kernel
theorem d_X12_print_151 : decode prog_14_method_82_code 151 = .ok (.aload_n 0, 1) := by decide +kernel
theorem d_X12_print_152 : decode prog_14_method_82_code 152 = .ok (.getfield 173, 3) := by decide +kernel
theorem d_X12_print_155 : decode prog_14_method_82_code 155 = .ok (.iload_n 2, 1) := by decide +kernel
theorem d_X12_print_156 : decode prog_14_method_82_code 156 = .ok (.iload 6, 2) := by decide +kernel
theorem d_X12_print_158 : decode prog_14_method_82_code 158 = .ok (.iastore, 1) := by decide +kernel
theorem d_X12_print_159 : decode prog_14_method_82_code 159 = .ok (.aload_n 0, 1) := by decide +kernel
theorem d_X12_print_160 : decode prog_14_method_82_code 160 = .ok (.getfield 176, 3) := by decide +kernel
theorem d_X12_print_163 : decode prog_14_method_82_code 163 = .ok (.iload_n 2, 1) := by decide +kernel
theorem d_X12_print_164 : decode prog_14_method_82_code 164 = .ok (.iconst 0, 1) := by decide +kernel
theorem d_X12_print_165 : decode prog_14_method_82_code 165 = .ok (.iastore, 1) := by decide +kernel
theorem d_X12_print_166 : decode prog_14_method_82_code 166 = .ok (.iinc 2 1, 3) := by decide +kernel
theorem d_X12_print_169 : decode prog_14_method_82_code 169 = .ok (.iconst 0, 1) := by decide +kernel
theorem d_X12_print_170 : decode prog_14_method_82_code 170 = .ok (.istore 6, 2) := by decide +kernel
theorem d_X12_print_172 : decode prog_14_method_82_code 172 = .ok (.iload 5, 2) := by decide +kernel
theorem d_X12_print_174 : decode prog_14_method_82_code 174 = .ok (.istore 7, 2) := by decide +kernel
theorem d_X12_print_176 : decode prog_14_method_82_code 176 = .ok (.iload_n 2, 1) := by decide +kernel
theorem d_X12_print_177 : decode prog_14_method_82_code 177 = .ok (.ifCond .le 113, 3) := by decide +kernel
theorem d_X12_print_180 : decode prog_14_method_82_code 180 = .ok (.iload 6, 2) := by decide +kernel
theorem d_X12_print_182 : decode prog_14_method_82_code 182 = .ok (.ifCond .ne 108, 3) := by decide +kernel
theorem d_X12_print_185 : decode prog_14_method_82_code 185 = .ok (.aload_n 0, 1) := by decide +kernel
theorem d_X12_print_186 : decode prog_14_method_82_code 186 = .ok (.getfield 173, 3) := by decide +kernel
theorem d_X12_print_189 : decode prog_14_method_82_code 189 = .ok (.iload_n 2, 1) := by decide +kernel
theorem d_X12_print_190 : decode prog_14_method_82_code 190 = .ok (.iconst 1, 1) := by decide +kernel
theorem d_X12_print_191 : decode prog_14_method_82_code 191 = .ok (.isub, 1) := by decide +kernel
theorem d_X12_print_192 : decode prog_14_method_82_code 192 = .ok (.iaload, 1) := by decide +kernel
theorem d_X12_print_193 : decode prog_14_method_82_code 193 = .ok (.istore 8, 2) := by decide +kernel
theorem d_X12_print_195 : decode prog_14_method_82_code 195 = .ok (.aload_n 0, 1) := by decide +kernel
theorem d_X12_print_196 : decode prog_14_method_82_code 196 = .ok (.getfield 176, 3) := by decide +kernel
theorem d_X12_print_199 : decode prog_14_method_82_code 199 = .ok (.iload_n 2, 1) := by decide +kernel
theorem d_X12_print_200 : decode prog_14_method_82_code 200 = .ok (.iconst 1, 1) := by decide +kernel
theorem d_X12_print_201 : decode prog_14_method_82_code 201 = .ok (.isub, 1) := by decide +kernel
theorem d_X12_print_202 : decode prog_14_method_82_code 202 = .ok (.dup2, 1) := by decide +kernel
theorem d_X12_print_203 : decode prog_14_method_82_code 203 = .ok (.iaload, 1) := by decide +kernel
theorem d_X12_print_204 : decode prog_14_method_82_code 204 = .ok (.iconst 1, 1) := by decide +kernel
theorem d_X12_print_205 : decode prog_14_method_82_code 205 = .ok (.iadd, 1) := by decide +kernel
theorem d_X12_print_206 : decode prog_14_method_82_code 206 = .ok (.iastore, 1) := by decide +kernel
theorem d_X12_print_207 : decode prog_14_method_82_code 207 = .ok (.aload_n 0, 1) := by decide +kernel
theorem d_X12_print_208 : decode prog_14_method_82_code 208 = .ok (.getfield 176, 3) := by decide +kernel
theorem d_X12_print_211 : decode prog_14_method_82_code 211 = .ok (.iload_n 2, 1) := by decide +kernel
theorem d_X12_print_212 : decode prog_14_method_82_code 212 = .ok (.iconst 1, 1) := by decide +kernel
theorem d_X12_print_213 : decode prog_14_method_82_code 213 = .ok (.isub, 1) := by decide +kernel
theorem d_X12_print_214 : decode prog_14_method_82_code 214 = .ok (.iaload, 1) := by decide +kernel
theorem d_X12_print_215 : decode prog_14_method_82_code 215 = .ok (.aload_n 0, 1) := by decide +kernel
theorem d_X12_print_216 : decode prog_14_method_82_code 216 = .ok (.getfield 21, 3) := by decide +kernel
theorem d_X12_print_219 : decode prog_14_method_82_code 219 = .ok (.aload_n 0, 1) := by decide +kernel
theorem d_X12_print_220 : decode prog_14_method_82_code 220 = .ok (.getfield 49, 3) := by decide +kernel
theorem d_X12_print_223 : decode prog_14_method_82_code 223 = .ok (.iload 8, 2) := by decide +kernel
theorem d_X12_print_225 : decode prog_14_method_82_code 225 = .ok (.iaload, 1) := by decide +kernel
theorem d_X12_print_226 : decode prog_14_method_82_code 226 = .ok (.iaload, 1) := by decide +kernel
theorem d_X12_print_227 : decode prog_14_method_82_code 227 = .ok (.if_icmp .ge 7, 3) := by decide +kernel
theorem d_X12_print_230 : decode prog_14_method_82_code 230 = .ok (.iconst 1, 1) := by decide +kernel
theorem d_X12_print_231 : decode prog_14_method_82_code 231 = .ok (.goto 4, 3) := by decide +kernel
theorem d_X12_print_234 : decode prog_14_method_82_code 234 = .ok (.iconst 0, 1) := by decide +kernel
theorem d_X12_print_235 : decode prog_14_method_82_code 235 = .ok (.istore 6, 2) := by decide +kernel
theorem d_X12_print_237 : decode prog_14_method_82_code 237 = .ok (.iload 6, 2) := by decide +kernel
theorem d_X12_print_239 : decode prog_14_method_82_code 239 = .ok (.ifCond .eq 36, 3) := by decide +kernel
theorem d_X12_print_242 : decode prog_14_method_82_code 242 = .ok (.iload 7, 2) := by decide +kernel
theorem d_X12_print_244 : decode prog_14_method_82_code 244 = .ok (.ifCond .ne 9, 3) := by decide +kernel
theorem d_X12_print_247 : decode prog_14_method_82_code 247 = .ok (.aload_n 0, 1) := by decide +kernel
theorem d_X12_print_248 : decode prog_14_method_82_code 248 = .ok (.bipush 44, 2) := by decide +kernel
theorem d_X12_print_250 : decode prog_14_method_82_code 250 = .ok (.invokevirtual 474, 3) := by decide +kernel
theorem d_X12_print_253 : decode prog_14_method_82_code 253 = .ok (.aload_n 0, 1) := by decide +kernel
theorem d_X12_print_254 : decode prog_14_method_82_code 254 = .ok (.getfield 52, 3) := by decide +kernel
theorem d_X12_print_257 : decode prog_14_method_82_code 257 = .ok (.iconst 5, 1) := by decide +kernel
theorem d_X12_print_258 : decode prog_14_method_82_code 258 = .ok (.iload 8, 2) := by decide +kernel
theorem d_X12_print_260 : decode prog_14_method_82_code 260 = .ok (.imul, 1) := by decide +kernel
theorem d_X12_print_261 : decode prog_14_method_82_code 261 = .ok (.aload_n 0, 1) := by decide +kernel
theorem d_X12_print_262 : decode prog_14_method_82_code 262 = .ok (.getfield 176, 3) := by decide +kernel
theorem d_X12_print_265 : decode prog_14_method_82_code 265 = .ok (.iload_n 2, 1) := by decide +kernel
theorem d_X12_print_266 : decode prog_14_method_82_code 266 = .ok (.iconst 1, 1) := by decide +kernel
theorem d_X12_print_267 : decode prog_14_method_82_code 267 = .ok (.isub, 1) := by decide +kernel
theorem d_X12_print_268 : decode prog_14_method_82_code 268 = .ok (.iaload, 1) := by decide +kernel
theorem d_X12_print_269 : decode prog_14_method_82_code 269 = .ok (.iadd, 1) := by decide +kernel
theorem d_X12_print_270 : decode prog_14_method_82_code 270 = .ok (.iaload, 1) := by decide +kernel
theorem d_X12_print_271 : decode prog_14_method_82_code 271 = .ok (.istore_n 3, 1) := by decide +kernel
theorem d_X12_print_272 : decode prog_14_method_82_code 272 = .ok (.goto 12, 3) := by decide +kernel
theorem d_X12_print_275 : decode prog_14_method_82_code 275 = .ok (.aload_n 0, 1) := by decide +kernel
theorem d_X12_print_276 : decode prog_14_method_82_code 276 = .ok (.bipush 41, 2) := by decide +kernel
theorem d_X12_print_278 : decode prog_14_method_82_code 278 = .ok (.invokevirtual 474, 3) := by decide +kernel
theorem d_X12_print_281 : decode prog_14_method_82_code 281 = .ok (.iinc 2 (-1), 3) := by decide +kernel
theorem d_X12_print_284 : decode prog_14_method_82_code 284 = .ok (.iconst 0, 1) := by decide +kernel
theorem d_X12_print_285 : decode prog_14_method_82_code 285 = .ok (.istore 7, 2) := by decide +kernel
theorem d_X12_print_287 : decode prog_14_method_82_code 287 = .ok (.goto (-111), 3) := by decide +kernel
theorem d_X12_print_290 : decode prog_14_method_82_code 290 = .ok (.iload 6, 2) := by decide +kernel
theorem d_X12_print_292 : decode prog_14_method_82_code 292 = .ok (.istore 4, 2) := by decide +kernel
theorem d_X12_print_294 : decode prog_14_method_82_code 294 = .ok (.goto (-257), 3) := by decide +kernel
theorem d_X12_print_297 : decode prog_14_method_82_code 297 = .ok (.aload_n 0, 1) := by decide +kernel
theorem d_X12_print_298 : decode prog_14_method_82_code 298 = .ok (.getfield 401, 3) := by decide +kernel
theorem d_X12_print_301 : decode prog_14_method_82_code 301 = .ok (.ireturn, 1) := by decide +kernel
theorem d_X12_reached_0 : decode prog_14_method_79_code 0 = .ok (.aload_n 0, 1) := by decide +kernel
theorem d_X12_reached_1 : decode prog_14_method_79_code 1 = .ok (.iconst 0, 1) := by decide +kernel
theorem d_X12_reached_2 : decode prog_14_method_79_code 2 = .ok (.iconst 0, 1) := by decide +kernel
theorem d_X12_reached_3 : decode prog_14_method_79_code 3 = .ok (.invokevirtual 463, 3) := by decide +kernel
theorem d_X12_reached_6 : decode prog_14_method_79_code 6 = .ok (.aload_n 0, 1) := by decide +kernel
theorem d_X12_reached_7 : decode prog_14_method_79_code 7 = .ok (.getfield 170, 3) := by decide +kernel
theorem d_X12_reached_10 : decode prog_14_method_79_code 10 = .ok (.iconst 0, 1) := by decide +kernel
theorem d_X12_reached_11 : decode prog_14_method_79_code 11 = .ok (.iaload, 1) := by decide +kernel
theorem d_X12_reached_12 : decode prog_14_method_79_code 12 = .ok (.ireturn, 1) := by decide +kernel
theorem d_X12_readPort_0 : decode prog_14_method_19_code 0 = .ok (.aload_n 0, 1) := by decide +kernel
theorem d_X12_readPort_1 : decode prog_14_method_19_code 1 = .ok (.getfield 205, 3) := by decide +kernel
theorem d_X12_readPort_4 : decode prog_14_method_19_code 4 = .ok (.iconst 1, 1) := by decide +kernel
theorem d_X12_readPort_5 : decode prog_14_method_19_code 5 = .ok (.if_icmp .ne 11, 3) := by decide +kernel
theorem d_X12_readPort_8 : decode prog_14_method_19_code 8 = .ok (.aload_n 0, 1) := by decide +kernel
theorem d_X12_readPort_9 : decode prog_14_method_19_code 9 = .ok (.getfield 228, 3) := by decide +kernel
theorem d_X12_readPort_12 : decode prog_14_method_19_code 12 = .ok (.iconst 1, 1) := by decide +kernel
theorem d_X12_readPort_13 : decode prog_14_method_19_code 13 = .ok (.if_icmp .eq 8, 3) := by decide +kernel
theorem d_X12_readPort_16 : decode prog_14_method_19_code 16 = .ok (.aload_n 0, 1) := by decide +kernel
theorem d_X12_readPort_17 : decode prog_14_method_19_code 17 = .ok (.invokevirtual 241, 3) := by decide +kernel
theorem d_X12_readPort_20 : decode prog_14_method_19_code 20 = .ok (.ireturn, 1) := by decide +kernel
theorem d_X12_readPort_21 : decode prog_14_method_19_code 21 = .ok (.aload_n 0, 1) := by decide +kernel
theorem d_X12_readPort_22 : decode prog_14_method_19_code 22 = .ok (.getfield 71, 3) := by decide +kernel
theorem d_X12_readPort_25 : decode prog_14_method_19_code 25 = .ok (.aload_n 0, 1) := by decide +kernel
theorem d_X12_readPort_26 : decode prog_14_method_19_code 26 = .ok (.getfield 248, 3) := by decide +kernel
theorem d_X12_readPort_29 : decode prog_14_method_19_code 29 = .ok (.iaload, 1) := by decide +kernel
theorem d_X12_readPort_30 : decode prog_14_method_19_code 30 = .ok (.istore_n 1, 1) := by decide +kernel
theorem d_X12_readPort_31 : decode prog_14_method_19_code 31 = .ok (.iload_n 1, 1) := by decide +kernel
theorem d_X12_readPort_32 : decode prog_14_method_19_code 32 = .ok (.iconst 5, 1) := by decide +kernel
theorem d_X12_readPort_33 : decode prog_14_method_19_code 33 = .ok (.if_icmp .ne 13, 3) := by decide +kernel
theorem d_X12_readPort_36 : decode prog_14_method_19_code 36 = .ok (.aload_n 0, 1) := by decide +kernel
theorem d_X12_readPort_37 : decode prog_14_method_19_code 37 = .ok (.iconst 4, 1) := by decide +kernel
theorem d_X12_readPort_38 : decode prog_14_method_19_code 38 = .ok (.aload_n 0, 1) := by decide +kernel
theorem d_X12_readPort_39 : decode prog_14_method_19_code 39 = .ok (.getfield 202, 3) := by decide +kernel
theorem d_X12_readPort_42 : decode prog_14_method_19_code 42 = .ok (.invokevirtual 234, 3) := by decide +kernel
theorem d_X12_readPort_45 : decode prog_14_method_19_code 45 = .ok (.ireturn, 1) := by decide +kernel
theorem d_X12_readPort_46 : decode prog_14_method_19_code 46 = .ok (.aload_n 0, 1) := by decide +kernel
theorem d_X12_readPort_47 : decode prog_14_method_19_code 47 = .ok (.getfield 225, 3) := by decide +kernel
theorem d_X12_readPort_50 : decode prog_14_method_19_code 50 = .ok (.l2i, 1) := by decide +kernel
theorem d_X12_readPort_51 : decode prog_14_method_19_code 51 = .ok (.bipush 97, 2) := by decide +kernel
theorem d_X12_readPort_53 : decode prog_14_method_19_code 53 = .ok (.isub, 1) := by decide +kernel
theorem d_X12_readPort_54 : decode prog_14_method_19_code 54 = .ok (.istore_n 2, 1) := by decide +kernel
theorem d_X12_readPort_55 : decode prog_14_method_19_code 55 = .ok (.aload_n 0, 1) := by decide +kernel
theorem d_X12_readPort_56 : decode prog_14_method_19_code 56 = .ok (.invokevirtual 245, 3) := by decide +kernel
theorem d_X12_readPort_59 : decode prog_14_method_19_code 59 = .ok (.aload_n 0, 1) := by decide +kernel
theorem d_X12_readPort_60 : decode prog_14_method_19_code 60 = .ok (.bipush 43, 2) := by decide +kernel
theorem d_X12_readPort_62 : decode prog_14_method_19_code 62 = .ok (.invokevirtual 238, 3) := by decide +kernel
theorem d_X12_readPort_65 : decode prog_14_method_19_code 65 = .ok (.ifCond .ne 17, 3) := by decide +kernel
theorem d_X12_readPort_68 : decode prog_14_method_19_code 68 = .ok (.aload_n 0, 1) := by decide +kernel
theorem d_X12_readPort_69 : decode prog_14_method_19_code 69 = .ok (.bipush 45, 2) := by decide +kernel
theorem d_X12_readPort_71 : decode prog_14_method_19_code 71 = .ok (.invokevirtual 238, 3) := by decide +kernel
theorem d_X12_readPort_74 : decode prog_14_method_19_code 74 = .ok (.ifCond .ne 8, 3) := by decide +kernel
theorem d_X12_readPort_77 : decode prog_14_method_19_code 77 = .ok (.aload_n 0, 1) := by decide +kernel
theorem d_X12_readPort_78 : decode prog_14_method_19_code 78 = .ok (.invokevirtual 241, 3) := by decide +kernel
theorem d_X12_readPort_81 : decode prog_14_method_19_code 81 = .ok (.ireturn, 1) := by decide +kernel
theorem d_X12_readPort_82 : decode prog_14_method_19_code 82 = .ok (.aload_n 0, 1) := by decide +kernel
theorem d_X12_readPort_83 : decode prog_14_method_19_code 83 = .ok (.getfield 74, 3) := by decide +kernel
theorem d_X12_readPort_86 : decode prog_14_method_19_code 86 = .ok (.iconst 5, 1) := by decide +kernel
theorem d_X12_readPort_87 : decode prog_14_method_19_code 87 = .ok (.aload_n 0, 1) := by decide +kernel
theorem d_X12_readPort_88 : decode prog_14_method_19_code 88 = .ok (.getfield 248, 3) := by decide +kernel
theorem d_X12_readPort_91 : decode prog_14_method_19_code 91 = .ok (.imul, 1) := by decide +kernel
theorem d_X12_readPort_92 : decode prog_14_method_19_code 92 = .ok (.iload_n 1, 1) := by decide +kernel
theorem d_X12_readPort_93 : decode prog_14_method_19_code 93 = .ok (.iadd, 1) := by decide +kernel
theorem d_X12_readPort_94 : decode prog_14_method_19_code 94 = .ok (.iload_n 2, 1) := by decide +kernel
theorem d_X12_readPort_95 : decode prog_14_method_19_code 95 = .ok (.iastore, 1) := by decide +kernel
theorem d_X12_readPort_96 : decode prog_14_method_19_code 96 = .ok (.aload_n 0, 1) := by decide +kernel
theorem d_X12_readPort_97 : decode prog_14_method_19_code 97 = .ok (.getfield 77, 3) := by decide +kernel
theorem d_X12_readPort_100 : decode prog_14_method_19_code 100 = .ok (.iconst 5, 1) := by decide +kernel
theorem d_X12_readPort_101 : decode prog_14_method_19_code 101 = .ok (.aload_n 0, 1) := by decide +kernel
theorem d_X12_readPort_102 : decode prog_14_method_19_code 102 = .ok (.getfield 248, 3) := by decide +kernel
theorem d_X12_readPort_105 : decode prog_14_method_19_code 105 = .ok (.imul, 1) := by decide +kernel
theorem d_X12_readPort_106 : decode prog_14_method_19_code 106 = .ok (.iload_n 1, 1) := by decide +kernel
theorem d_X12_readPort_107 : decode prog_14_method_19_code 107 = .ok (.iadd, 1) := by decide +kernel
theorem d_X12_readPort_108 : decode prog_14_method_19_code 108 = .ok (.aload_n 0, 1) := by decide +kernel
theorem d_X12_readPort_109 : decode prog_14_method_19_code 109 = .ok (.getfield 222, 3) := by decide +kernel
theorem d_X12_readPort_112 : decode prog_14_method_19_code 112 = .ok (.bipush 43, 2) := by decide +kernel
theorem d_X12_readPort_114 : decode prog_14_method_19_code 114 = .ok (.if_icmp .ne 7, 3) := by decide +kernel
theorem d_X12_readPort_117 : decode prog_14_method_19_code 117 = .ok (.iconst 1, 1) := by decide +kernel
theorem d_X12_readPort_118 : decode prog_14_method_19_code 118 = .ok (.goto 4, 3) := by decide +kernel
theorem d_X12_readPort_121 : decode prog_14_method_19_code 121 = .ok (.iconst 0, 1) := by decide +kernel
theorem d_X12_readPort_122 : decode prog_14_method_19_code 122 = .ok (.bastore, 1) := by decide +kernel
theorem d_X12_readPort_123 : decode prog_14_method_19_code 123 = .ok (.aload_n 0, 1) := by decide +kernel
theorem d_X12_readPort_124 : decode prog_14_method_19_code 124 = .ok (.getfield 71, 3) := by decide +kernel
theorem d_X12_readPort_127 : decode prog_14_method_19_code 127 = .ok (.aload_n 0, 1) := by decide +kernel
theorem d_X12_readPort_128 : decode prog_14_method_19_code 128 = .ok (.getfield 248, 3) := by decide +kernel
theorem d_X12_readPort_131 : decode prog_14_method_19_code 131 = .ok (.dup2, 1) := by decide +kernel
theorem d_X12_readPort_132 : decode prog_14_method_19_code 132 = .ok (.iaload, 1) := by decide +kernel
theorem d_X12_readPort_133 : decode prog_14_method_19_code 133 = .ok (.iconst 1, 1) := by decide +kernel
theorem d_X12_readPort_134 : decode prog_14_method_19_code 134 = .ok (.iadd, 1) := by decide +kernel
theorem d_X12_readPort_135 : decode prog_14_method_19_code 135 = .ok (.iastore, 1) := by decide +kernel
theorem d_X12_readPort_136 : decode prog_14_method_19_code 136 = .ok (.aload_n 0, 1) := by decide +kernel
theorem d_X12_readPort_137 : decode prog_14_method_19_code 137 = .ok (.invokevirtual 245, 3) := by decide +kernel
theorem d_X12_readPort_140 : decode prog_14_method_19_code 140 = .ok (.iconst 1, 1) := by decide +kernel
theorem d_X12_readPort_141 : decode prog_14_method_19_code 141 = .ok (.ireturn, 1) := by decide +kernel
theorem d_X12_readKind_0 : decode prog_14_method_18_code 0 = .ok (.aload_n 0, 1) := by decide +kernel
theorem d_X12_readKind_1 : decode prog_14_method_18_code 1 = .ok (.invokevirtual 245, 3) := by decide +kernel
theorem d_X12_readKind_4 : decode prog_14_method_18_code 4 = .ok (.aload_n 0, 1) := by decide +kernel
theorem d_X12_readKind_5 : decode prog_14_method_18_code 5 = .ok (.getfield 205, 3) := by decide +kernel
theorem d_X12_readKind_8 : decode prog_14_method_18_code 8 = .ok (.iconst 2, 1) := by decide +kernel
theorem d_X12_readKind_9 : decode prog_14_method_18_code 9 = .ok (.if_icmp .eq 8, 3) := by decide +kernel
theorem d_X12_readKind_12 : decode prog_14_method_18_code 12 = .ok (.aload_n 0, 1) := by decide +kernel
theorem d_X12_readKind_13 : decode prog_14_method_18_code 13 = .ok (.invokevirtual 241, 3) := by decide +kernel
theorem d_X12_readKind_16 : decode prog_14_method_18_code 16 = .ok (.ireturn, 1) := by decide +kernel
theorem d_X12_readKind_17 : decode prog_14_method_18_code 17 = .ok (.aload_n 0, 1) := by decide +kernel
theorem d_X12_readKind_18 : decode prog_14_method_18_code 18 = .ok (.aload_n 0, 1) := by decide +kernel
theorem d_X12_readKind_19 : decode prog_14_method_18_code 19 = .ok (.getfield 225, 3) := by decide +kernel
theorem d_X12_readKind_22 : decode prog_14_method_18_code 22 = .ok (.invokevirtual 251, 3) := by decide +kernel
theorem d_X12_readKind_25 : decode prog_14_method_18_code 25 = .ok (.ifCond .lt 13, 3) := by decide +kernel
theorem d_X12_readKind_28 : decode prog_14_method_18_code 28 = .ok (.aload_n 0, 1) := by decide +kernel
theorem d_X12_readKind_29 : decode prog_14_method_18_code 29 = .ok (.iconst 3, 1) := by decide +kernel
theorem d_X12_readKind_30 : decode prog_14_method_18_code 30 = .ok (.aload_n 0, 1) := by decide +kernel
theorem d_X12_readKind_31 : decode prog_14_method_18_code 31 = .ok (.getfield 202, 3) := by decide +kernel
theorem d_X12_readKind_34 : decode prog_14_method_18_code 34 = .ok (.invokevirtual 234, 3) := by decide +kernel
theorem d_X12_readKind_37 : decode prog_14_method_18_code 37 = .ok (.ireturn, 1) := by decide +kernel
theorem d_X12_readKind_38 : decode prog_14_method_18_code 38 = .ok (.aload_n 0, 1) := by decide +kernel
theorem d_X12_readKind_39 : decode prog_14_method_18_code 39 = .ok (.getfield 248, 3) := by decide +kernel
theorem d_X12_readKind_42 : decode prog_14_method_18_code 42 = .ok (.bipush 16, 2) := by decide +kernel
theorem d_X12_readKind_44 : decode prog_14_method_18_code 44 = .ok (.if_icmp .ne 13, 3) := by decide +kernel
theorem d_X12_readKind_47 : decode prog_14_method_18_code 47 = .ok (.aload_n 0, 1) := by decide +kernel
theorem d_X12_readKind_48 : decode prog_14_method_18_code 48 = .ok (.iconst 4, 1) := by decide +kernel
theorem d_X12_readKind_49 : decode prog_14_method_18_code 49 = .ok (.aload_n 0, 1) := by decide +kernel
theorem d_X12_readKind_50 : decode prog_14_method_18_code 50 = .ok (.getfield 202, 3) := by decide +kernel
theorem d_X12_readKind_53 : decode prog_14_method_18_code 53 = .ok (.invokevirtual 234, 3) := by decide +kernel
theorem d_X12_readKind_56 : decode prog_14_method_18_code 56 = .ok (.ireturn, 1) := by decide +kernel
theorem d_X12_readKind_57 : decode prog_14_method_18_code 57 = .ok (.aload_n 0, 1) := by decide +kernel
theorem d_X12_readKind_58 : decode prog_14_method_18_code 58 = .ok (.getfield 68, 3) := by decide +kernel
theorem d_X12_readKind_61 : decode prog_14_method_18_code 61 = .ok (.aload_n 0, 1) := by decide +kernel
theorem d_X12_readKind_62 : decode prog_14_method_18_code 62 = .ok (.getfield 248, 3) := by decide +kernel
theorem d_X12_readKind_65 : decode prog_14_method_18_code 65 = .ok (.aload_n 0, 1) := by decide +kernel
theorem d_X12_readKind_66 : decode prog_14_method_18_code 66 = .ok (.getfield 225, 3) := by decide +kernel
theorem d_X12_readKind_69 : decode prog_14_method_18_code 69 = .ok (.lastore, 1) := by decide +kernel
theorem d_X12_readKind_70 : decode prog_14_method_18_code 70 = .ok (.aload_n 0, 1) := by decide +kernel
theorem d_X12_readKind_71 : decode prog_14_method_18_code 71 = .ok (.getfield 71, 3) := by decide +kernel
theorem d_X12_readKind_74 : decode prog_14_method_18_code 74 = .ok (.aload_n 0, 1) := by decide +kernel
theorem d_X12_readKind_75 : decode prog_14_method_18_code 75 = .ok (.getfield 248, 3) := by decide +kernel
theorem d_X12_readKind_78 : decode prog_14_method_18_code 78 = .ok (.iconst 0, 1) := by decide +kernel
theorem d_X12_readKind_79 : decode prog_14_method_18_code 79 = .ok (.iastore, 1) := by decide +kernel
theorem d_X12_readKind_80 : decode prog_14_method_18_code 80 = .ok (.aload_n 0, 1) := by decide +kernel
theorem d_X12_readKind_81 : decode prog_14_method_18_code 81 = .ok (.invokevirtual 245, 3) := by decide +kernel
theorem d_X12_readKind_84 : decode prog_14_method_18_code 84 = .ok (.aload_n 0, 1) := by decide +kernel
theorem d_X12_readKind_85 : decode prog_14_method_18_code 85 = .ok (.invokevirtual 255, 3) := by decide +kernel
theorem d_X12_readKind_88 : decode prog_14_method_18_code 88 = .ok (.ifCond .ne 5, 3) := by decide +kernel
theorem d_X12_readKind_91 : decode prog_14_method_18_code 91 = .ok (.iconst 0, 1) := by decide +kernel
theorem d_X12_readKind_92 : decode prog_14_method_18_code 92 = .ok (.ireturn, 1) := by decide +kernel
theorem d_X12_readKind_93 : decode prog_14_method_18_code 93 = .ok (.aload_n 0, 1) := by decide +kernel
theorem d_X12_readKind_94 : decode prog_14_method_18_code 94 = .ok (.bipush 40, 2) := by decide +kernel
theorem d_X12_readKind_96 : decode prog_14_method_18_code 96 = .ok (.invokevirtual 238, 3) := by decide +kernel
theorem d_X12_readKind_99 : decode prog_14_method_18_code 99 = .ok (.istore_n 1, 1) := by decide +kernel
theorem d_X12_readKind_100 : decode prog_14_method_18_code 100 = .ok (.iload_n 1, 1) := by decide +kernel
theorem d_X12_readKind_101 : decode prog_14_method_18_code 101 = .ok (.istore_n 2, 1) := by decide +kernel
theorem d_X12_readKind_102 : decode prog_14_method_18_code 102 = .ok (.iload_n 1, 1) := by decide +kernel
theorem d_X12_readKind_103 : decode prog_14_method_18_code 103 = .ok (.ifCond .eq 26, 3) := by decide +kernel
theorem d_X12_readKind_106 : decode prog_14_method_18_code 106 = .ok (.aload_n 0, 1) := by decide +kernel
theorem d_X12_readKind_107 : decode prog_14_method_18_code 107 = .ok (.invokevirtual 245, 3) := by decide +kernel
theorem d_X12_readKind_110 : decode prog_14_method_18_code 110 = .ok (.aload_n 0, 1) := by decide +kernel
theorem d_X12_readKind_111 : decode prog_14_method_18_code 111 = .ok (.invokevirtual 255, 3) := by decide +kernel
theorem d_X12_readKind_114 : decode prog_14_method_18_code 114 = .ok (.ifCond .ne 5, 3) := by decide +kernel
theorem d_X12_readKind_117 : decode prog_14_method_18_code 117 = .ok (.iconst 0, 1) := by decide +kernel
theorem d_X12_readKind_118 : decode prog_14_method_18_code 118 = .ok (.ireturn, 1) := by decide +kernel
theorem d_X12_readKind_119 : decode prog_14_method_18_code 119 = .ok (.aload_n 0, 1) := by decide +kernel
theorem d_X12_readKind_120 : decode prog_14_method_18_code 120 = .ok (.bipush 44, 2) := by decide +kernel
theorem d_X12_readKind_122 : decode prog_14_method_18_code 122 = .ok (.invokevirtual 238, 3) := by decide +kernel
theorem d_X12_readKind_125 : decode prog_14_method_18_code 125 = .ok (.istore_n 1, 1) := by decide +kernel
theorem d_X12_readKind_126 : decode prog_14_method_18_code 126 = .ok (.goto (-24), 3) := by decide +kernel
theorem d_X12_readKind_129 : decode prog_14_method_18_code 129 = .ok (.iload_n 2, 1) := by decide +kernel
theorem d_X12_readKind_130 : decode prog_14_method_18_code 130 = .ok (.ifCond .eq 14, 3) := by decide +kernel
theorem d_X12_readKind_133 : decode prog_14_method_18_code 133 = .ok (.aload_n 0, 1) := by decide +kernel
theorem d_X12_readKind_134 : decode prog_14_method_18_code 134 = .ok (.bipush 41, 2) := by decide +kernel
theorem d_X12_readKind_136 : decode prog_14_method_18_code 136 = .ok (.invokevirtual 258, 3) := by decide +kernel
theorem d_X12_readKind_139 : decode prog_14_method_18_code 139 = .ok (.ifCond .ne 5, 3) := by decide +kernel
theorem d_X12_readKind_142 : decode prog_14_method_18_code 142 = .ok (.iconst 0, 1) := by decide +kernel
theorem d_X12_readKind_143 : decode prog_14_method_18_code 143 = .ok (.ireturn, 1) := by decide +kernel
theorem d_X12_readKind_144 : decode prog_14_method_18_code 144 = .ok (.aload_n 0, 1) := by decide +kernel
theorem d_X12_readKind_145 : decode prog_14_method_18_code 145 = .ok (.bipush 59, 2) := by decide +kernel
theorem d_X12_readKind_147 : decode prog_14_method_18_code 147 = .ok (.invokevirtual 238, 3) := by decide +kernel
theorem d_X12_readKind_150 : decode prog_14_method_18_code 150 = .ok (.ifCond .ne 8, 3) := by decide +kernel
theorem d_X12_readKind_153 : decode prog_14_method_18_code 153 = .ok (.aload_n 0, 1) := by decide +kernel
theorem d_X12_readKind_154 : decode prog_14_method_18_code 154 = .ok (.invokevirtual 241, 3) := by decide +kernel
theorem d_X12_readKind_157 : decode prog_14_method_18_code 157 = .ok (.ireturn, 1) := by decide +kernel
theorem d_X12_readKind_158 : decode prog_14_method_18_code 158 = .ok (.aload_n 0, 1) := by decide +kernel
theorem d_X12_readKind_159 : decode prog_14_method_18_code 159 = .ok (.dup, 1) := by decide +kernel
theorem d_X12_readKind_160 : decode prog_14_method_18_code 160 = .ok (.getfield 248, 3) := by decide +kernel
theorem d_X12_readKind_163 : decode prog_14_method_18_code 163 = .ok (.iconst 1, 1) := by decide +kernel
theorem d_X12_readKind_164 : decode prog_14_method_18_code 164 = .ok (.iadd, 1) := by decide +kernel
theorem d_X12_readKind_165 : decode prog_14_method_18_code 165 = .ok (.putfield 248, 3) := by decide +kernel
theorem d_X12_readKind_168 : decode prog_14_method_18_code 168 = .ok (.iconst 1, 1) := by decide +kernel
theorem d_X12_readKind_169 : decode prog_14_method_18_code 169 = .ok (.ireturn, 1) := by decide +kernel
theorem d_X12_useName_0 : decode prog_14_method_22_code 0 = .ok (.iconst 0, 1) := by decide +kernel
theorem d_X12_useName_1 : decode prog_14_method_22_code 1 = .ok (.istore_n 1, 1) := by decide +kernel
theorem d_X12_useName_2 : decode prog_14_method_22_code 2 = .ok (.iload_n 1, 1) := by decide +kernel
theorem d_X12_useName_3 : decode prog_14_method_22_code 3 = .ok (.aload_n 0, 1) := by decide +kernel
theorem d_X12_useName_4 : decode prog_14_method_22_code 4 = .ok (.getfield 267, 3) := by decide +kernel
theorem d_X12_useName_7 : decode prog_14_method_22_code 7 = .ok (.if_icmp .ge 23, 3) := by decide +kernel
theorem d_X12_useName_10 : decode prog_14_method_22_code 10 = .ok (.aload_n 0, 1) := by decide +kernel
theorem d_X12_useName_11 : decode prog_14_method_22_code 11 = .ok (.getfield 107, 3) := by decide +kernel
theorem d_X12_useName_14 : decode prog_14_method_22_code 14 = .ok (.iload_n 1, 1) := by decide +kernel
theorem d_X12_useName_15 : decode prog_14_method_22_code 15 = .ok (.laload, 1) := by decide +kernel
theorem d_X12_useName_16 : decode prog_14_method_22_code 16 = .ok (.aload_n 0, 1) := by decide +kernel
theorem d_X12_useName_17 : decode prog_14_method_22_code 17 = .ok (.getfield 225, 3) := by decide +kernel
theorem d_X12_useName_20 : decode prog_14_method_22_code 20 = .ok (.lcmp, 1) := by decide +kernel
theorem d_X12_useName_21 : decode prog_14_method_22_code 21 = .ok (.ifCond .eq 9, 3) := by decide +kernel
theorem d_X12_useName_24 : decode prog_14_method_22_code 24 = .ok (.iinc 1 1, 3) := by decide +kernel
theorem d_X12_useName_27 : decode prog_14_method_22_code 27 = .ok (.goto (-25), 3) := by decide +kernel
theorem d_X12_useName_30 : decode prog_14_method_22_code 30 = .ok (.iload_n 1, 1) := by decide +kernel
theorem d_X12_useName_31 : decode prog_14_method_22_code 31 = .ok (.bipush 60, 2) := by decide +kernel
theorem d_X12_useName_33 : decode prog_14_method_22_code 33 = .ok (.if_icmp .ne 5, 3) := by decide +kernel
theorem d_X12_useName_36 : decode prog_14_method_22_code 36 = .ok (.iconst (-1), 1) := by decide +kernel
theorem d_X12_useName_37 : decode prog_14_method_22_code 37 = .ok (.ireturn, 1) := by decide +kernel
theorem d_X12_useName_38 : decode prog_14_method_22_code 38 = .ok (.iload_n 1, 1) := by decide +kernel
theorem d_X12_useName_39 : decode prog_14_method_22_code 39 = .ok (.aload_n 0, 1) := by decide +kernel
theorem d_X12_useName_40 : decode prog_14_method_22_code 40 = .ok (.getfield 267, 3) := by decide +kernel
theorem d_X12_useName_43 : decode prog_14_method_22_code 43 = .ok (.if_icmp .ne 30, 3) := by decide +kernel
theorem d_X12_useName_46 : decode prog_14_method_22_code 46 = .ok (.aload_n 0, 1) := by decide +kernel
theorem d_X12_useName_47 : decode prog_14_method_22_code 47 = .ok (.getfield 107, 3) := by decide +kernel
theorem d_X12_useName_50 : decode prog_14_method_22_code 50 = .ok (.iload_n 1, 1) := by decide +kernel
theorem d_X12_useName_51 : decode prog_14_method_22_code 51 = .ok (.aload_n 0, 1) := by decide +kernel
theorem d_X12_useName_52 : decode prog_14_method_22_code 52 = .ok (.getfield 225, 3) := by decide +kernel
theorem d_X12_useName_55 : decode prog_14_method_22_code 55 = .ok (.lastore, 1) := by decide +kernel
theorem d_X12_useName_56 : decode prog_14_method_22_code 56 = .ok (.aload_n 0, 1) := by decide +kernel
theorem d_X12_useName_57 : decode prog_14_method_22_code 57 = .ok (.getfield 110, 3) := by decide +kernel
theorem d_X12_useName_60 : decode prog_14_method_22_code 60 = .ok (.iload_n 1, 1) := by decide +kernel
theorem d_X12_useName_61 : decode prog_14_method_22_code 61 = .ok (.iconst 0, 1) := by decide +kernel
theorem d_X12_useName_62 : decode prog_14_method_22_code 62 = .ok (.iastore, 1) := by decide +kernel
theorem d_X12_useName_63 : decode prog_14_method_22_code 63 = .ok (.aload_n 0, 1) := by decide +kernel
theorem d_X12_useName_64 : decode prog_14_method_22_code 64 = .ok (.dup, 1) := by decide +kernel
theorem d_X12_useName_65 : decode prog_14_method_22_code 65 = .ok (.getfield 267, 3) := by decide +kernel
theorem d_X12_useName_68 : decode prog_14_method_22_code 68 = .ok (.iconst 1, 1) := by decide +kernel
theorem d_X12_useName_69 : decode prog_14_method_22_code 69 = .ok (.iadd, 1) := by decide +kernel
theorem d_X12_useName_70 : decode prog_14_method_22_code 70 = .ok (.putfield 267, 3) := by decide +kernel
theorem d_X12_useName_73 : decode prog_14_method_22_code 73 = .ok (.aload_n 0, 1) := by decide +kernel
theorem d_X12_useName_74 : decode prog_14_method_22_code 74 = .ok (.getfield 110, 3) := by decide +kernel
theorem d_X12_useName_77 : decode prog_14_method_22_code 77 = .ok (.iload_n 1, 1) := by decide +kernel
theorem d_X12_useName_78 : decode prog_14_method_22_code 78 = .ok (.iaload, 1) := by decide +kernel
theorem d_X12_useName_79 : decode prog_14_method_22_code 79 = .ok (.iconst 2, 1) := by decide +kernel
theorem d_X12_useName_80 : decode prog_14_method_22_code 80 = .ok (.if_icmp .ge 20, 3) := by decide +kernel
theorem d_X12_useName_83 : decode prog_14_method_22_code 83 = .ok (.sipush 1000, 3) := by decide +kernel
theorem d_X12_useName_86 : decode prog_14_method_22_code 86 = .ok (.iconst 2, 1) := by decide +kernel
theorem d_X12_useName_87 : decode prog_14_method_22_code 87 = .ok (.iload_n 1, 1) := by decide +kernel
theorem d_X12_useName_88 : decode prog_14_method_22_code 88 = .ok (.imul, 1) := by decide +kernel
theorem d_X12_useName_89 : decode prog_14_method_22_code 89 = .ok (.iadd, 1) := by decide +kernel
theorem d_X12_useName_90 : decode prog_14_method_22_code 90 = .ok (.aload_n 0, 1) := by decide +kernel
theorem d_X12_useName_91 : decode prog_14_method_22_code 91 = .ok (.getfield 110, 3) := by decide +kernel
theorem d_X12_useName_94 : decode prog_14_method_22_code 94 = .ok (.iload_n 1, 1) := by decide +kernel
theorem d_X12_useName_95 : decode prog_14_method_22_code 95 = .ok (.iaload, 1) := by decide +kernel
theorem d_X12_useName_96 : decode prog_14_method_22_code 96 = .ok (.iadd, 1) := by decide +kernel
theorem d_X12_useName_97 : decode prog_14_method_22_code 97 = .ok (.goto 6, 3) := by decide +kernel
theorem d_X12_useName_100 : decode prog_14_method_22_code 100 = .ok (.sipush 1210, 3) := by decide +kernel
theorem d_X12_useName_103 : decode prog_14_method_22_code 103 = .ok (.istore_n 2, 1) := by decide +kernel
theorem d_X12_useName_104 : decode prog_14_method_22_code 104 = .ok (.aload_n 0, 1) := by decide +kernel
theorem d_X12_useName_105 : decode prog_14_method_22_code 105 = .ok (.getfield 110, 3) := by decide +kernel
theorem d_X12_useName_108 : decode prog_14_method_22_code 108 = .ok (.iload_n 1, 1) := by decide +kernel
theorem d_X12_useName_109 : decode prog_14_method_22_code 109 = .ok (.dup2, 1) := by decide +kernel
theorem d_X12_useName_110 : decode prog_14_method_22_code 110 = .ok (.iaload, 1) := by decide +kernel
theorem d_X12_useName_111 : decode prog_14_method_22_code 111 = .ok (.iconst 1, 1) := by decide +kernel
theorem d_X12_useName_112 : decode prog_14_method_22_code 112 = .ok (.iadd, 1) := by decide +kernel
theorem d_X12_useName_113 : decode prog_14_method_22_code 113 = .ok (.iastore, 1) := by decide +kernel
theorem d_X12_useName_114 : decode prog_14_method_22_code 114 = .ok (.iload_n 2, 1) := by decide +kernel
theorem d_X12_useName_115 : decode prog_14_method_22_code 115 = .ok (.ireturn, 1) := by decide +kernel
theorem d_X12_readTerm_0 : decode prog_14_method_23_code 0 = .ok (.iconst 0, 1) := by decide +kernel
theorem d_X12_readTerm_1 : decode prog_14_method_23_code 1 = .ok (.istore_n 1, 1) := by decide +kernel
theorem d_X12_readTerm_2 : decode prog_14_method_23_code 2 = .ok (.iconst 0, 1) := by decide +kernel
theorem d_X12_readTerm_3 : decode prog_14_method_23_code 3 = .ok (.istore_n 2, 1) := by decide +kernel
theorem d_X12_readTerm_4 : decode prog_14_method_23_code 4 = .ok (.aload_n 0, 1) := by decide +kernel
theorem d_X12_readTerm_5 : decode prog_14_method_23_code 5 = .ok (.getfield 205, 3) := by decide +kernel
theorem d_X12_readTerm_8 : decode prog_14_method_23_code 8 = .ok (.iconst 1, 1) := by decide +kernel
theorem d_X12_readTerm_9 : decode prog_14_method_23_code 9 = .ok (.if_icmp .ne 45, 3) := by decide +kernel
theorem d_X12_readTerm_12 : decode prog_14_method_23_code 12 = .ok (.aload_n 0, 1) := by decide +kernel
theorem d_X12_readTerm_13 : decode prog_14_method_23_code 13 = .ok (.iload_n 1, 1) := by decide +kernel
theorem d_X12_readTerm_14 : decode prog_14_method_23_code 14 = .ok (.bipush 12, 2) := by decide +kernel
theorem d_X12_readTerm_16 : decode prog_14_method_23_code 16 = .ok (.if_icmp .ne 7, 3) := by decide +kernel
theorem d_X12_readTerm_19 : decode prog_14_method_23_code 19 = .ok (.iconst (-1), 1) := by decide +kernel
theorem d_X12_readTerm_20 : decode prog_14_method_23_code 20 = .ok (.goto 7, 3) := by decide +kernel
theorem d_X12_readTerm_23 : decode prog_14_method_23_code 23 = .ok (.aload_n 0, 1) := by decide +kernel
theorem d_X12_readTerm_24 : decode prog_14_method_23_code 24 = .ok (.invokevirtual 270, 3) := by decide +kernel
theorem d_X12_readTerm_27 : decode prog_14_method_23_code 27 = .ok (.putfield 274, 3) := by decide +kernel
theorem d_X12_readTerm_30 : decode prog_14_method_23_code 30 = .ok (.aload_n 0, 1) := by decide +kernel
theorem d_X12_readTerm_31 : decode prog_14_method_23_code 31 = .ok (.getfield 274, 3) := by decide +kernel
theorem d_X12_readTerm_34 : decode prog_14_method_23_code 34 = .ok (.ifCond .ge 13, 3) := by decide +kernel
theorem d_X12_readTerm_37 : decode prog_14_method_23_code 37 = .ok (.aload_n 0, 1) := by decide +kernel
theorem d_X12_readTerm_38 : decode prog_14_method_23_code 38 = .ok (.iconst 4, 1) := by decide +kernel
theorem d_X12_readTerm_39 : decode prog_14_method_23_code 39 = .ok (.aload_n 0, 1) := by decide +kernel
theorem d_X12_readTerm_40 : decode prog_14_method_23_code 40 = .ok (.getfield 202, 3) := by decide +kernel
theorem d_X12_readTerm_43 : decode prog_14_method_23_code 43 = .ok (.invokevirtual 234, 3) := by decide +kernel
theorem d_X12_readTerm_46 : decode prog_14_method_23_code 46 = .ok (.ireturn, 1) := by decide +kernel
theorem d_X12_readTerm_47 : decode prog_14_method_23_code 47 = .ok (.aload_n 0, 1) := by decide +kernel
theorem d_X12_readTerm_48 : decode prog_14_method_23_code 48 = .ok (.invokevirtual 245, 3) := by decide +kernel
theorem d_X12_readTerm_51 : decode prog_14_method_23_code 51 = .ok (.goto 183, 3) := by decide +kernel
theorem d_X12_readTerm_54 : decode prog_14_method_23_code 54 = .ok (.aload_n 0, 1) := by decide +kernel
theorem d_X12_readTerm_55 : decode prog_14_method_23_code 55 = .ok (.getfield 205, 3) := by decide +kernel
theorem d_X12_readTerm_58 : decode prog_14_method_23_code 58 = .ok (.iconst 2, 1) := by decide +kernel
theorem d_X12_readTerm_59 : decode prog_14_method_23_code 59 = .ok (.if_icmp .ne 170, 3) := by decide +kernel
theorem d_X12_readTerm_62 : decode prog_14_method_23_code 62 = .ok (.aload_n 0, 1) := by decide +kernel
theorem d_X12_readTerm_63 : decode prog_14_method_23_code 63 = .ok (.aload_n 0, 1) := by decide +kernel
theorem d_X12_readTerm_64 : decode prog_14_method_23_code 64 = .ok (.getfield 225, 3) := by decide +kernel
theorem d_X12_readTerm_67 : decode prog_14_method_23_code 67 = .ok (.invokevirtual 251, 3) := by decide +kernel
theorem d_X12_readTerm_70 : decode prog_14_method_23_code 70 = .ok (.istore_n 3, 1) := by decide +kernel
theorem d_X12_readTerm_71 : decode prog_14_method_23_code 71 = .ok (.iload_n 3, 1) := by decide +kernel
theorem d_X12_readTerm_72 : decode prog_14_method_23_code 72 = .ok (.ifCond .ge 13, 3) := by decide +kernel
theorem d_X12_readTerm_75 : decode prog_14_method_23_code 75 = .ok (.aload_n 0, 1) := by decide +kernel
theorem d_X12_readTerm_76 : decode prog_14_method_23_code 76 = .ok (.iconst 3, 1) := by decide +kernel
theorem d_X12_readTerm_77 : decode prog_14_method_23_code 77 = .ok (.aload_n 0, 1) := by decide +kernel
theorem d_X12_readTerm_78 : decode prog_14_method_23_code 78 = .ok (.getfield 202, 3) := by decide +kernel
theorem d_X12_readTerm_81 : decode prog_14_method_23_code 81 = .ok (.invokevirtual 234, 3) := by decide +kernel
theorem d_X12_readTerm_84 : decode prog_14_method_23_code 84 = .ok (.ireturn, 1) := by decide +kernel
theorem d_X12_readTerm_85 : decode prog_14_method_23_code 85 = .ok (.iload_n 1, 1) := by decide +kernel
theorem d_X12_readTerm_86 : decode prog_14_method_23_code 86 = .ok (.bipush 12, 2) := by decide +kernel
theorem d_X12_readTerm_88 : decode prog_14_method_23_code 88 = .ok (.if_icmp .eq 14, 3) := by decide +kernel
theorem d_X12_readTerm_91 : decode prog_14_method_23_code 91 = .ok (.aload_n 0, 1) := by decide +kernel
theorem d_X12_readTerm_92 : decode prog_14_method_23_code 92 = .ok (.getfield 261, 3) := by decide +kernel
theorem d_X12_readTerm_95 : decode prog_14_method_23_code 95 = .ok (.aload_n 0, 1) := by decide +kernel
theorem d_X12_readTerm_96 : decode prog_14_method_23_code 96 = .ok (.getfield 264, 3) := by decide +kernel
theorem d_X12_readTerm_99 : decode prog_14_method_23_code 99 = .ok (.if_icmp .ne 13, 3) := by decide +kernel
theorem d_X12_readTerm_102 : decode prog_14_method_23_code 102 = .ok (.aload_n 0, 1) := by decide +kernel
theorem d_X12_readTerm_103 : decode prog_14_method_23_code 103 = .ok (.iconst 4, 1) := by decide +kernel
theorem d_X12_readTerm_104 : decode prog_14_method_23_code 104 = .ok (.aload_n 0, 1) := by decide +kernel
theorem d_X12_readTerm_105 : decode prog_14_method_23_code 105 = .ok (.getfield 202, 3) := by decide +kernel
theorem d_X12_readTerm_108 : decode prog_14_method_23_code 108 = .ok (.invokevirtual 234, 3) := by decide +kernel
theorem d_X12_readTerm_111 : decode prog_14_method_23_code 111 = .ok (.ireturn, 1) := by decide +kernel
theorem d_X12_readTerm_112 : decode prog_14_method_23_code 112 = .ok (.aload_n 0, 1) := by decide +kernel
theorem d_X12_readTerm_113 : decode prog_14_method_23_code 113 = .ok (.getfield 98, 3) := by decide +kernel
theorem d_X12_readTerm_116 : decode prog_14_method_23_code 116 = .ok (.aload_n 0, 1) := by decide +kernel
theorem d_X12_readTerm_117 : decode prog_14_method_23_code 117 = .ok (.getfield 261, 3) := by decide +kernel
theorem d_X12_readTerm_120 : decode prog_14_method_23_code 120 = .ok (.iload_n 3, 1) := by decide +kernel
theorem d_X12_readTerm_121 : decode prog_14_method_23_code 121 = .ok (.iastore, 1) := by decide +kernel
theorem d_X12_readTerm_122 : decode prog_14_method_23_code 122 = .ok (.aload_n 0, 1) := by decide +kernel
theorem d_X12_readTerm_123 : decode prog_14_method_23_code 123 = .ok (.getfield 101, 3) := by decide +kernel
theorem d_X12_readTerm_126 : decode prog_14_method_23_code 126 = .ok (.aload_n 0, 1) := by decide +kernel
theorem d_X12_readTerm_127 : decode prog_14_method_23_code 127 = .ok (.getfield 261, 3) := by decide +kernel
theorem d_X12_readTerm_130 : decode prog_14_method_23_code 130 = .ok (.aload_n 0, 1) := by decide +kernel
theorem d_X12_readTerm_131 : decode prog_14_method_23_code 131 = .ok (.getfield 202, 3) := by decide +kernel
theorem d_X12_readTerm_134 : decode prog_14_method_23_code 134 = .ok (.iastore, 1) := by decide +kernel
theorem d_X12_readTerm_135 : decode prog_14_method_23_code 135 = .ok (.aload_n 0, 1) := by decide +kernel
theorem d_X12_readTerm_136 : decode prog_14_method_23_code 136 = .ok (.iconst 5, 1) := by decide +kernel
theorem d_X12_readTerm_137 : decode prog_14_method_23_code 137 = .ok (.aload_n 0, 1) := by decide +kernel
theorem d_X12_readTerm_138 : decode prog_14_method_23_code 138 = .ok (.getfield 261, 3) := by decide +kernel
theorem d_X12_readTerm_141 : decode prog_14_method_23_code 141 = .ok (.imul, 1) := by decide +kernel
theorem d_X12_readTerm_142 : decode prog_14_method_23_code 142 = .ok (.putfield 274, 3) := by decide +kernel
theorem d_X12_readTerm_145 : decode prog_14_method_23_code 145 = .ok (.aload_n 0, 1) := by decide +kernel
theorem d_X12_readTerm_146 : decode prog_14_method_23_code 146 = .ok (.dup, 1) := by decide +kernel
theorem d_X12_readTerm_147 : decode prog_14_method_23_code 147 = .ok (.getfield 261, 3) := by decide +kernel
theorem d_X12_readTerm_150 : decode prog_14_method_23_code 150 = .ok (.iconst 1, 1) := by decide +kernel
theorem d_X12_readTerm_151 : decode prog_14_method_23_code 151 = .ok (.iadd, 1) := by decide +kernel
theorem d_X12_readTerm_152 : decode prog_14_method_23_code 152 = .ok (.putfield 261, 3) := by decide +kernel
theorem d_X12_readTerm_155 : decode prog_14_method_23_code 155 = .ok (.aload_n 0, 1) := by decide +kernel
theorem d_X12_readTerm_156 : decode prog_14_method_23_code 156 = .ok (.invokevirtual 245, 3) := by decide +kernel
theorem d_X12_readTerm_159 : decode prog_14_method_23_code 159 = .ok (.aload_n 0, 1) := by decide +kernel
theorem d_X12_readTerm_160 : decode prog_14_method_23_code 160 = .ok (.bipush 40, 2) := by decide +kernel
theorem d_X12_readTerm_162 : decode prog_14_method_23_code 162 = .ok (.invokevirtual 238, 3) := by decide +kernel
theorem d_X12_readTerm_165 : decode prog_14_method_23_code 165 = .ok (.istore_n 2, 1) := by decide +kernel
theorem d_X12_readTerm_166 : decode prog_14_method_23_code 166 = .ok (.iload_n 2, 1) := by decide +kernel
theorem d_X12_readTerm_167 : decode prog_14_method_23_code 167 = .ok (.ifCond .eq 32, 3) := by decide +kernel
theorem d_X12_readTerm_170 : decode prog_14_method_23_code 170 = .ok (.aload_n 0, 1) := by decide +kernel
theorem d_X12_readTerm_171 : decode prog_14_method_23_code 171 = .ok (.getfield 116, 3) := by decide +kernel
theorem d_X12_readTerm_174 : decode prog_14_method_23_code 174 = .ok (.iload_n 1, 1) := by decide +kernel
theorem d_X12_readTerm_175 : decode prog_14_method_23_code 175 = .ok (.aload_n 0, 1) := by decide +kernel
theorem d_X12_readTerm_176 : decode prog_14_method_23_code 176 = .ok (.getfield 261, 3) := by decide +kernel
theorem d_X12_readTerm_179 : decode prog_14_method_23_code 179 = .ok (.iconst 1, 1) := by decide +kernel
theorem d_X12_readTerm_180 : decode prog_14_method_23_code 180 = .ok (.isub, 1) := by decide +kernel
theorem d_X12_readTerm_181 : decode prog_14_method_23_code 181 = .ok (.iastore, 1) := by decide +kernel
theorem d_X12_readTerm_182 : decode prog_14_method_23_code 182 = .ok (.aload_n 0, 1) := by decide +kernel
theorem d_X12_readTerm_183 : decode prog_14_method_23_code 183 = .ok (.getfield 119, 3) := by decide +kernel
theorem d_X12_readTerm_186 : decode prog_14_method_23_code 186 = .ok (.iload_n 1, 1) := by decide +kernel
theorem d_X12_readTerm_187 : decode prog_14_method_23_code 187 = .ok (.iconst 1, 1) := by decide +kernel
theorem d_X12_readTerm_188 : decode prog_14_method_23_code 188 = .ok (.iastore, 1) := by decide +kernel
theorem d_X12_readTerm_189 : decode prog_14_method_23_code 189 = .ok (.iinc 1 1, 3) := by decide +kernel
theorem d_X12_readTerm_192 : decode prog_14_method_23_code 192 = .ok (.aload_n 0, 1) := by decide +kernel
theorem d_X12_readTerm_193 : decode prog_14_method_23_code 193 = .ok (.invokevirtual 245, 3) := by decide +kernel
theorem d_X12_readTerm_196 : decode prog_14_method_23_code 196 = .ok (.goto 30, 3) := by decide +kernel
theorem d_X12_readTerm_199 : decode prog_14_method_23_code 199 = .ok (.aload_n 0, 1) := by decide +kernel
theorem d_X12_readTerm_200 : decode prog_14_method_23_code 200 = .ok (.getfield 71, 3) := by decide +kernel
theorem d_X12_readTerm_203 : decode prog_14_method_23_code 203 = .ok (.iload_n 3, 1) := by decide +kernel
theorem d_X12_readTerm_204 : decode prog_14_method_23_code 204 = .ok (.iaload, 1) := by decide +kernel
theorem d_X12_readTerm_205 : decode prog_14_method_23_code 205 = .ok (.iconst 1, 1) := by decide +kernel
theorem d_X12_readTerm_206 : decode prog_14_method_23_code 206 = .ok (.if_icmp .eq 20, 3) := by decide +kernel
theorem d_X12_readTerm_209 : decode prog_14_method_23_code 209 = .ok (.aload_n 0, 1) := by decide +kernel
theorem d_X12_readTerm_210 : decode prog_14_method_23_code 210 = .ok (.iconst 5, 1) := by decide +kernel
theorem d_X12_readTerm_211 : decode prog_14_method_23_code 211 = .ok (.aload_n 0, 1) := by decide +kernel
theorem d_X12_readTerm_212 : decode prog_14_method_23_code 212 = .ok (.getfield 101, 3) := by decide +kernel
theorem d_X12_readTerm_215 : decode prog_14_method_23_code 215 = .ok (.aload_n 0, 1) := by decide +kernel
theorem d_X12_readTerm_216 : decode prog_14_method_23_code 216 = .ok (.getfield 261, 3) := by decide +kernel
theorem d_X12_readTerm_219 : decode prog_14_method_23_code 219 = .ok (.iconst 1, 1) := by decide +kernel
theorem d_X12_readTerm_220 : decode prog_14_method_23_code 220 = .ok (.isub, 1) := by decide +kernel
theorem d_X12_readTerm_221 : decode prog_14_method_23_code 221 = .ok (.iaload, 1) := by decide +kernel
theorem d_X12_readTerm_222 : decode prog_14_method_23_code 222 = .ok (.invokevirtual 234, 3) := by decide +kernel
theorem d_X12_readTerm_225 : decode prog_14_method_23_code 225 = .ok (.ireturn, 1) := by decide +kernel
theorem d_X12_readTerm_226 : decode prog_14_method_23_code 226 = .ok (.goto 8, 3) := by decide +kernel
theorem d_X12_readTerm_229 : decode prog_14_method_23_code 229 = .ok (.aload_n 0, 1) := by decide +kernel
theorem d_X12_readTerm_230 : decode prog_14_method_23_code 230 = .ok (.invokevirtual 241, 3) := by decide +kernel
theorem d_X12_readTerm_233 : decode prog_14_method_23_code 233 = .ok (.ireturn, 1) := by decide +kernel
theorem d_X12_readTerm_234 : decode prog_14_method_23_code 234 = .ok (.iload_n 2, 1) := by decide +kernel
theorem d_X12_readTerm_235 : decode prog_14_method_23_code 235 = .ok (.istore_n 3, 1) := by decide +kernel
theorem d_X12_readTerm_236 : decode prog_14_method_23_code 236 = .ok (.iload_n 3, 1) := by decide +kernel
theorem d_X12_readTerm_237 : decode prog_14_method_23_code 237 = .ok (.ifCond .ne 149, 3) := by decide +kernel
theorem d_X12_readTerm_240 : decode prog_14_method_23_code 240 = .ok (.iload_n 1, 1) := by decide +kernel
theorem d_X12_readTerm_241 : decode prog_14_method_23_code 241 = .ok (.ifCond .ne 5, 3) := by decide +kernel
theorem d_X12_readTerm_244 : decode prog_14_method_23_code 244 = .ok (.iconst 1, 1) := by decide +kernel
theorem d_X12_readTerm_245 : decode prog_14_method_23_code 245 = .ok (.ireturn, 1) := by decide +kernel
theorem d_X12_readTerm_246 : decode prog_14_method_23_code 246 = .ok (.aload_n 0, 1) := by decide +kernel
theorem d_X12_readTerm_247 : decode prog_14_method_23_code 247 = .ok (.getfield 116, 3) := by decide +kernel
theorem d_X12_readTerm_250 : decode prog_14_method_23_code 250 = .ok (.iload_n 1, 1) := by decide +kernel
theorem d_X12_readTerm_251 : decode prog_14_method_23_code 251 = .ok (.iconst 1, 1) := by decide +kernel
theorem d_X12_readTerm_252 : decode prog_14_method_23_code 252 = .ok (.isub, 1) := by decide +kernel
theorem d_X12_readTerm_253 : decode prog_14_method_23_code 253 = .ok (.iaload, 1) := by decide +kernel
theorem d_X12_readTerm_254 : decode prog_14_method_23_code 254 = .ok (.istore 4, 2) := by decide +kernel
theorem d_X12_readTerm_256 : decode prog_14_method_23_code 256 = .ok (.aload_n 0, 1) := by decide +kernel
theorem d_X12_readTerm_257 : decode prog_14_method_23_code 257 = .ok (.getfield 119, 3) := by decide +kernel
theorem d_X12_readTerm_260 : decode prog_14_method_23_code 260 = .ok (.iload_n 1, 1) := by decide +kernel
theorem d_X12_readTerm_261 : decode prog_14_method_23_code 261 = .ok (.iconst 1, 1) := by decide +kernel
theorem d_X12_readTerm_262 : decode prog_14_method_23_code 262 = .ok (.isub, 1) := by decide +kernel
theorem d_X12_readTerm_263 : decode prog_14_method_23_code 263 = .ok (.iaload, 1) := by decide +kernel
theorem d_X12_readTerm_264 : decode prog_14_method_23_code 264 = .ok (.istore 5, 2) := by decide +kernel
theorem d_X12_readTerm_266 : decode prog_14_method_23_code 266 = .ok (.aload_n 0, 1) := by decide +kernel
theorem d_X12_readTerm_267 : decode prog_14_method_23_code 267 = .ok (.getfield 71, 3) := by decide +kernel
theorem d_X12_readTerm_270 : decode prog_14_method_23_code 270 = .ok (.aload_n 0, 1) := by decide +kernel
theorem d_X12_readTerm_271 : decode prog_14_method_23_code 271 = .ok (.getfield 98, 3) := by decide +kernel
theorem d_X12_readTerm_274 : decode prog_14_method_23_code 274 = .ok (.iload 4, 2) := by decide +kernel
theorem d_X12_readTerm_276 : decode prog_14_method_23_code 276 = .ok (.iaload, 1) := by decide +kernel
theorem d_X12_readTerm_277 : decode prog_14_method_23_code 277 = .ok (.iaload, 1) := by decide +kernel
theorem d_X12_readTerm_278 : decode prog_14_method_23_code 278 = .ok (.istore 6, 2) := by decide +kernel
theorem d_X12_readTerm_280 : decode prog_14_method_23_code 280 = .ok (.iload 5, 2) := by decide +kernel
theorem d_X12_readTerm_282 : decode prog_14_method_23_code 282 = .ok (.iload 6, 2) := by decide +kernel
theorem d_X12_readTerm_284 : decode prog_14_method_23_code 284 = .ok (.if_icmp .ge 18, 3) := by decide +kernel
theorem d_X12_readTerm_287 : decode prog_14_method_23_code 287 = .ok (.aload_n 0, 1) := by decide +kernel
theorem d_X12_readTerm_288 : decode prog_14_method_23_code 288 = .ok (.iconst 5, 1) := by decide +kernel
theorem d_X12_readTerm_289 : decode prog_14_method_23_code 289 = .ok (.iload 4, 2) := by decide +kernel
theorem d_X12_readTerm_291 : decode prog_14_method_23_code 291 = .ok (.imul, 1) := by decide +kernel
theorem d_X12_readTerm_292 : decode prog_14_method_23_code 292 = .ok (.iload 5, 2) := by decide +kernel
theorem d_X12_readTerm_294 : decode prog_14_method_23_code 294 = .ok (.iadd, 1) := by decide +kernel
theorem d_X12_readTerm_295 : decode prog_14_method_23_code 295 = .ok (.aload_n 0, 1) := by decide +kernel
theorem d_X12_readTerm_296 : decode prog_14_method_23_code 296 = .ok (.getfield 274, 3) := by decide +kernel
theorem d_X12_readTerm_299 : decode prog_14_method_23_code 299 = .ok (.invokevirtual 277, 3) := by decide +kernel
theorem d_X12_readTerm_302 : decode prog_14_method_23_code 302 = .ok (.aload_n 0, 1) := by decide +kernel
theorem d_X12_readTerm_303 : decode prog_14_method_23_code 303 = .ok (.getfield 119, 3) := by decide +kernel
theorem d_X12_readTerm_306 : decode prog_14_method_23_code 306 = .ok (.iload_n 1, 1) := by decide +kernel
theorem d_X12_readTerm_307 : decode prog_14_method_23_code 307 = .ok (.iconst 1, 1) := by decide +kernel
theorem d_X12_readTerm_308 : decode prog_14_method_23_code 308 = .ok (.isub, 1) := by decide +kernel
theorem d_X12_readTerm_309 : decode prog_14_method_23_code 309 = .ok (.dup2, 1) := by decide +kernel
theorem d_X12_readTerm_310 : decode prog_14_method_23_code 310 = .ok (.iaload, 1) := by decide +kernel
theorem d_X12_readTerm_311 : decode prog_14_method_23_code 311 = .ok (.iconst 1, 1) := by decide +kernel
theorem d_X12_readTerm_312 : decode prog_14_method_23_code 312 = .ok (.iadd, 1) := by decide +kernel
theorem d_X12_readTerm_313 : decode prog_14_method_23_code 313 = .ok (.iastore, 1) := by decide +kernel
theorem d_X12_readTerm_314 : decode prog_14_method_23_code 314 = .ok (.aload_n 0, 1) := by decide +kernel
theorem d_X12_readTerm_315 : decode prog_14_method_23_code 315 = .ok (.bipush 44, 2) := by decide +kernel
theorem d_X12_readTerm_317 : decode prog_14_method_23_code 317 = .ok (.invokevirtual 238, 3) := by decide +kernel
theorem d_X12_readTerm_320 : decode prog_14_method_23_code 320 = .ok (.ifCond .eq 8, 3) := by decide +kernel
theorem d_X12_readTerm_323 : decode prog_14_method_23_code 323 = .ok (.iconst 1, 1) := by decide +kernel
theorem d_X12_readTerm_324 : decode prog_14_method_23_code 324 = .ok (.istore_n 3, 1) := by decide +kernel
theorem d_X12_readTerm_325 : decode prog_14_method_23_code 325 = .ok (.goto 54, 3) := by decide +kernel
theorem d_X12_readTerm_328 : decode prog_14_method_23_code 328 = .ok (.aload_n 0, 1) := by decide +kernel
theorem d_X12_readTerm_329 : decode prog_14_method_23_code 329 = .ok (.bipush 41, 2) := by decide +kernel
theorem d_X12_readTerm_331 : decode prog_14_method_23_code 331 = .ok (.invokevirtual 238, 3) := by decide +kernel
theorem d_X12_readTerm_334 : decode prog_14_method_23_code 334 = .ok (.ifCond .ne 8, 3) := by decide +kernel
theorem d_X12_readTerm_337 : decode prog_14_method_23_code 337 = .ok (.aload_n 0, 1) := by decide +kernel
theorem d_X12_readTerm_338 : decode prog_14_method_23_code 338 = .ok (.invokevirtual 241, 3) := by decide +kernel
theorem d_X12_readTerm_341 : decode prog_14_method_23_code 341 = .ok (.ireturn, 1) := by decide +kernel
theorem d_X12_readTerm_342 : decode prog_14_method_23_code 342 = .ok (.aload_n 0, 1) := by decide +kernel
theorem d_X12_readTerm_343 : decode prog_14_method_23_code 343 = .ok (.getfield 119, 3) := by decide +kernel
theorem d_X12_readTerm_346 : decode prog_14_method_23_code 346 = .ok (.iload_n 1, 1) := by decide +kernel
theorem d_X12_readTerm_347 : decode prog_14_method_23_code 347 = .ok (.iconst 1, 1) := by decide +kernel
theorem d_X12_readTerm_348 : decode prog_14_method_23_code 348 = .ok (.isub, 1) := by decide +kernel
theorem d_X12_readTerm_349 : decode prog_14_method_23_code 349 = .ok (.iaload, 1) := by decide +kernel
theorem d_X12_readTerm_350 : decode prog_14_method_23_code 350 = .ok (.iload 6, 2) := by decide +kernel
theorem d_X12_readTerm_352 : decode prog_14_method_23_code 352 = .ok (.if_icmp .eq 16, 3) := by decide +kernel
theorem d_X12_readTerm_355 : decode prog_14_method_23_code 355 = .ok (.aload_n 0, 1) := by decide +kernel
theorem d_X12_readTerm_356 : decode prog_14_method_23_code 356 = .ok (.iconst 5, 1) := by decide +kernel
theorem d_X12_readTerm_357 : decode prog_14_method_23_code 357 = .ok (.aload_n 0, 1) := by decide +kernel
theorem d_X12_readTerm_358 : decode prog_14_method_23_code 358 = .ok (.getfield 101, 3) := by decide +kernel
theorem d_X12_readTerm_361 : decode prog_14_method_23_code 361 = .ok (.iload 4, 2) := by decide +kernel
theorem d_X12_readTerm_363 : decode prog_14_method_23_code 363 = .ok (.iaload, 1) := by decide +kernel
theorem d_X12_readTerm_364 : decode prog_14_method_23_code 364 = .ok (.invokevirtual 234, 3) := by decide +kernel
theorem d_X12_readTerm_367 : decode prog_14_method_23_code 367 = .ok (.ireturn, 1) := by decide +kernel
theorem d_X12_readTerm_368 : decode prog_14_method_23_code 368 = .ok (.aload_n 0, 1) := by decide +kernel
theorem d_X12_readTerm_369 : decode prog_14_method_23_code 369 = .ok (.iconst 5, 1) := by decide +kernel
theorem d_X12_readTerm_370 : decode prog_14_method_23_code 370 = .ok (.iload 4, 2) := by decide +kernel
theorem d_X12_readTerm_372 : decode prog_14_method_23_code 372 = .ok (.imul, 1) := by decide +kernel
theorem d_X12_readTerm_373 : decode prog_14_method_23_code 373 = .ok (.putfield 274, 3) := by decide +kernel
theorem d_X12_readTerm_376 : decode prog_14_method_23_code 376 = .ok (.iinc 1 (-1), 3) := by decide +kernel
theorem d_X12_readTerm_379 : decode prog_14_method_23_code 379 = .ok (.aload_n 0, 1) := by decide +kernel
theorem d_X12_readTerm_380 : decode prog_14_method_23_code 380 = .ok (.invokevirtual 245, 3) := by decide +kernel
theorem d_X12_readTerm_383 : decode prog_14_method_23_code 383 = .ok (.goto (-147), 3) := by decide +kernel
theorem d_X12_readTerm_386 : decode prog_14_method_23_code 386 = .ok (.goto (-384), 3) := by decide +kernel
theorem d_X12_readLinks_0 : decode prog_14_method_24_code 0 = .ok (.iconst 1, 1) := by decide +kernel
theorem d_X12_readLinks_1 : decode prog_14_method_24_code 1 = .ok (.istore_n 1, 1) := by decide +kernel
theorem d_X12_readLinks_2 : decode prog_14_method_24_code 2 = .ok (.iload_n 1, 1) := by decide +kernel
theorem d_X12_readLinks_3 : decode prog_14_method_24_code 3 = .ok (.ifCond .eq 62, 3) := by decide +kernel
theorem d_X12_readLinks_6 : decode prog_14_method_24_code 6 = .ok (.aload_n 0, 1) := by decide +kernel
theorem d_X12_readLinks_7 : decode prog_14_method_24_code 7 = .ok (.invokevirtual 281, 3) := by decide +kernel
theorem d_X12_readLinks_10 : decode prog_14_method_24_code 10 = .ok (.ifCond .ne 5, 3) := by decide +kernel
theorem d_X12_readLinks_13 : decode prog_14_method_24_code 13 = .ok (.iconst 0, 1) := by decide +kernel
theorem d_X12_readLinks_14 : decode prog_14_method_24_code 14 = .ok (.ireturn, 1) := by decide +kernel
theorem d_X12_readLinks_15 : decode prog_14_method_24_code 15 = .ok (.aload_n 0, 1) := by decide +kernel
theorem d_X12_readLinks_16 : decode prog_14_method_24_code 16 = .ok (.getfield 274, 3) := by decide +kernel
theorem d_X12_readLinks_19 : decode prog_14_method_24_code 19 = .ok (.istore_n 2, 1) := by decide +kernel
theorem d_X12_readLinks_20 : decode prog_14_method_24_code 20 = .ok (.aload_n 0, 1) := by decide +kernel
theorem d_X12_readLinks_21 : decode prog_14_method_24_code 21 = .ok (.bipush 61, 2) := by decide +kernel
theorem d_X12_readLinks_23 : decode prog_14_method_24_code 23 = .ok (.invokevirtual 258, 3) := by decide +kernel
theorem d_X12_readLinks_26 : decode prog_14_method_24_code 26 = .ok (.ifCond .eq 10, 3) := by decide +kernel
theorem d_X12_readLinks_29 : decode prog_14_method_24_code 29 = .ok (.aload_n 0, 1) := by decide +kernel
theorem d_X12_readLinks_30 : decode prog_14_method_24_code 30 = .ok (.invokevirtual 281, 3) := by decide +kernel
theorem d_X12_readLinks_33 : decode prog_14_method_24_code 33 = .ok (.ifCond .ne 5, 3) := by decide +kernel
theorem d_X12_readLinks_36 : decode prog_14_method_24_code 36 = .ok (.iconst 0, 1) := by decide +kernel
theorem d_X12_readLinks_37 : decode prog_14_method_24_code 37 = .ok (.ireturn, 1) := by decide +kernel
theorem d_X12_readLinks_38 : decode prog_14_method_24_code 38 = .ok (.aload_n 0, 1) := by decide +kernel
theorem d_X12_readLinks_39 : decode prog_14_method_24_code 39 = .ok (.iload_n 2, 1) := by decide +kernel
theorem d_X12_readLinks_40 : decode prog_14_method_24_code 40 = .ok (.aload_n 0, 1) := by decide +kernel
theorem d_X12_readLinks_41 : decode prog_14_method_24_code 41 = .ok (.getfield 274, 3) := by decide +kernel
theorem d_X12_readLinks_44 : decode prog_14_method_24_code 44 = .ok (.invokevirtual 277, 3) := by decide +kernel
theorem d_X12_readLinks_47 : decode prog_14_method_24_code 47 = .ok (.aload_n 0, 1) := by decide +kernel
theorem d_X12_readLinks_48 : decode prog_14_method_24_code 48 = .ok (.bipush 44, 2) := by decide +kernel
theorem d_X12_readLinks_50 : decode prog_14_method_24_code 50 = .ok (.invokevirtual 238, 3) := by decide +kernel
theorem d_X12_readLinks_53 : decode prog_14_method_24_code 53 = .ok (.istore_n 1, 1) := by decide +kernel
theorem d_X12_readLinks_54 : decode prog_14_method_24_code 54 = .ok (.iload_n 1, 1) := by decide +kernel
theorem d_X12_readLinks_55 : decode prog_14_method_24_code 55 = .ok (.ifCond .eq 7, 3) := by decide +kernel
theorem d_X12_readLinks_58 : decode prog_14_method_24_code 58 = .ok (.aload_n 0, 1) := by decide +kernel
theorem d_X12_readLinks_59 : decode prog_14_method_24_code 59 = .ok (.invokevirtual 245, 3) := by decide +kernel
theorem d_X12_readLinks_62 : decode prog_14_method_24_code 62 = .ok (.goto (-60), 3) := by decide +kernel
