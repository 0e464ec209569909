theorem d_X12_readLinks_65 : decode prog_14_method_24_code 65 = .ok (.iconst 1, 1) := by decide +kernel
theorem d_X12_readLinks_66 : decode prog_14_method_24_code 66 = .ok (.ireturn, 1) := by decide +kernel
theorem d_X12_sheetRings_0 : decode prog_14_method_27_code 0 = .ok (.iconst 0, 1) := by decide +kernel
theorem d_X12_sheetRings_1 : decode prog_14_method_27_code 1 = .ok (.istore_n 1, 1) := by decide +kernel
theorem d_X12_sheetRings_2 : decode prog_14_method_27_code 2 = .ok (.sipush 1000, 3) := by decide +kernel
theorem d_X12_sheetRings_5 : decode prog_14_method_27_code 5 = .ok (.istore_n 2, 1) := by decide +kernel
theorem d_X12_sheetRings_6 : decode prog_14_method_27_code 6 = .ok (.iload_n 2, 1) := by decide +kernel
theorem d_X12_sheetRings_7 : decode prog_14_method_27_code 7 = .ok (.sipush 1000, 3) := by decide +kernel
theorem d_X12_sheetRings_10 : decode prog_14_method_27_code 10 = .ok (.iconst 2, 1) := by decide +kernel
theorem d_X12_sheetRings_11 : decode prog_14_method_27_code 11 = .ok (.aload_n 0, 1) := by decide +kernel
theorem d_X12_sheetRings_12 : decode prog_14_method_27_code 12 = .ok (.getfield 267, 3) := by decide +kernel
theorem d_X12_sheetRings_15 : decode prog_14_method_27_code 15 = .ok (.imul, 1) := by decide +kernel
theorem d_X12_sheetRings_16 : decode prog_14_method_27_code 16 = .ok (.iadd, 1) := by decide +kernel
theorem d_X12_sheetRings_17 : decode prog_14_method_27_code 17 = .ok (.if_icmp .ge 99, 3) := by decide +kernel
theorem d_X12_sheetRings_20 : decode prog_14_method_27_code 20 = .ok (.aload_n 0, 1) := by decide +kernel
theorem d_X12_sheetRings_21 : decode prog_14_method_27_code 21 = .ok (.getfield 122, 3) := by decide +kernel
theorem d_X12_sheetRings_24 : decode prog_14_method_27_code 24 = .ok (.iload_n 2, 1) := by decide +kernel
theorem d_X12_sheetRings_25 : decode prog_14_method_27_code 25 = .ok (.baload, 1) := by decide +kernel
theorem d_X12_sheetRings_26 : decode prog_14_method_27_code 26 = .ok (.ifCond .ne 84, 3) := by decide +kernel
theorem d_X12_sheetRings_29 : decode prog_14_method_27_code 29 = .ok (.aload_n 0, 1) := by decide +kernel
theorem d_X12_sheetRings_30 : decode prog_14_method_27_code 30 = .ok (.getfield 110, 3) := by decide +kernel
theorem d_X12_sheetRings_33 : decode prog_14_method_27_code 33 = .ok (.iload_n 2, 1) := by decide +kernel
theorem d_X12_sheetRings_34 : decode prog_14_method_27_code 34 = .ok (.sipush 1000, 3) := by decide +kernel
theorem d_X12_sheetRings_37 : decode prog_14_method_27_code 37 = .ok (.isub, 1) := by decide +kernel
theorem d_X12_sheetRings_38 : decode prog_14_method_27_code 38 = .ok (.iconst 2, 1) := by decide +kernel
theorem d_X12_sheetRings_39 : decode prog_14_method_27_code 39 = .ok (.idiv, 1) := by decide +kernel
theorem d_X12_sheetRings_40 : decode prog_14_method_27_code 40 = .ok (.iaload, 1) := by decide +kernel
theorem d_X12_sheetRings_41 : decode prog_14_method_27_code 41 = .ok (.iconst 2, 1) := by decide +kernel
theorem d_X12_sheetRings_42 : decode prog_14_method_27_code 42 = .ok (.if_icmp .ne 68, 3) := by decide +kernel
theorem d_X12_sheetRings_45 : decode prog_14_method_27_code 45 = .ok (.iinc 1 1, 3) := by decide +kernel
theorem d_X12_sheetRings_48 : decode prog_14_method_27_code 48 = .ok (.iload_n 2, 1) := by decide +kernel
theorem d_X12_sheetRings_49 : decode prog_14_method_27_code 49 = .ok (.istore_n 3, 1) := by decide +kernel
theorem d_X12_sheetRings_50 : decode prog_14_method_27_code 50 = .ok (.aload_n 0, 1) := by decide +kernel
theorem d_X12_sheetRings_51 : decode prog_14_method_27_code 51 = .ok (.getfield 122, 3) := by decide +kernel
theorem d_X12_sheetRings_54 : decode prog_14_method_27_code 54 = .ok (.iload_n 3, 1) := by decide +kernel
theorem d_X12_sheetRings_55 : decode prog_14_method_27_code 55 = .ok (.baload, 1) := by decide +kernel
theorem d_X12_sheetRings_56 : decode prog_14_method_27_code 56 = .ok (.ifCond .ne 54, 3) := by decide +kernel
theorem d_X12_sheetRings_59 : decode prog_14_method_27_code 59 = .ok (.aload_n 0, 1) := by decide +kernel
theorem d_X12_sheetRings_60 : decode prog_14_method_27_code 60 = .ok (.getfield 122, 3) := by decide +kernel
theorem d_X12_sheetRings_63 : decode prog_14_method_27_code 63 = .ok (.iload_n 3, 1) := by decide +kernel
theorem d_X12_sheetRings_64 : decode prog_14_method_27_code 64 = .ok (.iconst 1, 1) := by decide +kernel
theorem d_X12_sheetRings_65 : decode prog_14_method_27_code 65 = .ok (.bastore, 1) := by decide +kernel
theorem d_X12_sheetRings_66 : decode prog_14_method_27_code 66 = .ok (.sipush 1000, 3) := by decide +kernel
theorem d_X12_sheetRings_69 : decode prog_14_method_27_code 69 = .ok (.iconst 2, 1) := by decide +kernel
theorem d_X12_sheetRings_70 : decode prog_14_method_27_code 70 = .ok (.iload_n 3, 1) := by decide +kernel
theorem d_X12_sheetRings_71 : decode prog_14_method_27_code 71 = .ok (.sipush 1000, 3) := by decide +kernel
theorem d_X12_sheetRings_74 : decode prog_14_method_27_code 74 = .ok (.isub, 1) := by decide +kernel
theorem d_X12_sheetRings_75 : decode prog_14_method_27_code 75 = .ok (.iconst 2, 1) := by decide +kernel
theorem d_X12_sheetRings_76 : decode prog_14_method_27_code 76 = .ok (.idiv, 1) := by decide +kernel
theorem d_X12_sheetRings_77 : decode prog_14_method_27_code 77 = .ok (.imul, 1) := by decide +kernel
theorem d_X12_sheetRings_78 : decode prog_14_method_27_code 78 = .ok (.iadd, 1) := by decide +kernel
theorem d_X12_sheetRings_79 : decode prog_14_method_27_code 79 = .ok (.iconst 1, 1) := by decide +kernel
theorem d_X12_sheetRings_80 : decode prog_14_method_27_code 80 = .ok (.iadd, 1) := by decide +kernel
theorem d_X12_sheetRings_81 : decode prog_14_method_27_code 81 = .ok (.iload_n 3, 1) := by decide +kernel
theorem d_X12_sheetRings_82 : decode prog_14_method_27_code 82 = .ok (.sipush 1000, 3) := by decide +kernel
theorem d_X12_sheetRings_85 : decode prog_14_method_27_code 85 = .ok (.isub, 1) := by decide +kernel
theorem d_X12_sheetRings_86 : decode prog_14_method_27_code 86 = .ok (.iconst 2, 1) := by decide +kernel
theorem d_X12_sheetRings_87 : decode prog_14_method_27_code 87 = .ok (.irem, 1) := by decide +kernel
theorem d_X12_sheetRings_88 : decode prog_14_method_27_code 88 = .ok (.isub, 1) := by decide +kernel
theorem d_X12_sheetRings_89 : decode prog_14_method_27_code 89 = .ok (.istore 4, 2) := by decide +kernel
theorem d_X12_sheetRings_91 : decode prog_14_method_27_code 91 = .ok (.aload_n 0, 1) := by decide +kernel
theorem d_X12_sheetRings_92 : decode prog_14_method_27_code 92 = .ok (.getfield 122, 3) := by decide +kernel
theorem d_X12_sheetRings_95 : decode prog_14_method_27_code 95 = .ok (.iload 4, 2) := by decide +kernel
theorem d_X12_sheetRings_97 : decode prog_14_method_27_code 97 = .ok (.iconst 1, 1) := by decide +kernel
theorem d_X12_sheetRings_98 : decode prog_14_method_27_code 98 = .ok (.bastore, 1) := by decide +kernel
theorem d_X12_sheetRings_99 : decode prog_14_method_27_code 99 = .ok (.aload_n 0, 1) := by decide +kernel
theorem d_X12_sheetRings_100 : decode prog_14_method_27_code 100 = .ok (.getfield 104, 3) := by decide +kernel
theorem d_X12_sheetRings_103 : decode prog_14_method_27_code 103 = .ok (.iload 4, 2) := by decide +kernel
theorem d_X12_sheetRings_105 : decode prog_14_method_27_code 105 = .ok (.iaload, 1) := by decide +kernel
theorem d_X12_sheetRings_106 : decode prog_14_method_27_code 106 = .ok (.istore_n 3, 1) := by decide +kernel
theorem d_X12_sheetRings_107 : decode prog_14_method_27_code 107 = .ok (.goto (-57), 3) := by decide +kernel
theorem d_X12_sheetRings_110 : decode prog_14_method_27_code 110 = .ok (.iinc 2 1, 3) := by decide +kernel
theorem d_X12_sheetRings_113 : decode prog_14_method_27_code 113 = .ok (.goto (-107), 3) := by decide +kernel
theorem d_X12_sheetRings_116 : decode prog_14_method_27_code 116 = .ok (.iload_n 1, 1) := by decide +kernel
theorem d_X12_sheetRings_117 : decode prog_14_method_27_code 117 = .ok (.ireturn, 1) := by decide +kernel
theorem d_X12_readNet_0 : decode prog_14_method_35_code 0 = .ok (.aload_n 0, 1) := by decide +kernel
theorem d_X12_readNet_1 : decode prog_14_method_35_code 1 = .ok (.getfield 320, 3) := by decide +kernel
theorem d_X12_readNet_4 : decode prog_14_method_35_code 4 = .ok (.ifCond .eq 13, 3) := by decide +kernel
theorem d_X12_readNet_7 : decode prog_14_method_35_code 7 = .ok (.aload_n 0, 1) := by decide +kernel
theorem d_X12_readNet_8 : decode prog_14_method_35_code 8 = .ok (.iconst 4, 1) := by decide +kernel
theorem d_X12_readNet_9 : decode prog_14_method_35_code 9 = .ok (.aload_n 0, 1) := by decide +kernel
theorem d_X12_readNet_10 : decode prog_14_method_35_code 10 = .ok (.getfield 202, 3) := by decide +kernel
theorem d_X12_readNet_13 : decode prog_14_method_35_code 13 = .ok (.invokevirtual 234, 3) := by decide +kernel
theorem d_X12_readNet_16 : decode prog_14_method_35_code 16 = .ok (.ireturn, 1) := by decide +kernel
theorem d_X12_readNet_17 : decode prog_14_method_35_code 17 = .ok (.aload_n 0, 1) := by decide +kernel
theorem d_X12_readNet_18 : decode prog_14_method_35_code 18 = .ok (.iconst 1, 1) := by decide +kernel
theorem d_X12_readNet_19 : decode prog_14_method_35_code 19 = .ok (.putfield 320, 3) := by decide +kernel
theorem d_X12_readNet_22 : decode prog_14_method_35_code 22 = .ok (.aload_n 0, 1) := by decide +kernel
theorem d_X12_readNet_23 : decode prog_14_method_35_code 23 = .ok (.sipush 200, 3) := by decide +kernel
theorem d_X12_readNet_26 : decode prog_14_method_35_code 26 = .ok (.invokevirtual 299, 3) := by decide +kernel
theorem d_X12_readNet_29 : decode prog_14_method_35_code 29 = .ok (.aload_n 0, 1) := by decide +kernel
theorem d_X12_readNet_30 : decode prog_14_method_35_code 30 = .ok (.invokevirtual 245, 3) := by decide +kernel
theorem d_X12_readNet_33 : decode prog_14_method_35_code 33 = .ok (.aload_n 0, 1) := by decide +kernel
theorem d_X12_readNet_34 : decode prog_14_method_35_code 34 = .ok (.bipush 59, 2) := by decide +kernel
theorem d_X12_readNet_36 : decode prog_14_method_35_code 36 = .ok (.invokevirtual 238, 3) := by decide +kernel
theorem d_X12_readNet_39 : decode prog_14_method_35_code 39 = .ok (.ifCond .ne 12, 3) := by decide +kernel
theorem d_X12_readNet_42 : decode prog_14_method_35_code 42 = .ok (.aload_n 0, 1) := by decide +kernel
theorem d_X12_readNet_43 : decode prog_14_method_35_code 43 = .ok (.invokevirtual 305, 3) := by decide +kernel
theorem d_X12_readNet_46 : decode prog_14_method_35_code 46 = .ok (.ifCond .ne 5, 3) := by decide +kernel
theorem d_X12_readNet_49 : decode prog_14_method_35_code 49 = .ok (.iconst 0, 1) := by decide +kernel
theorem d_X12_readNet_50 : decode prog_14_method_35_code 50 = .ok (.ireturn, 1) := by decide +kernel
theorem d_X12_readNet_51 : decode prog_14_method_35_code 51 = .ok (.aload_n 0, 1) := by decide +kernel
theorem d_X12_readNet_52 : decode prog_14_method_35_code 52 = .ok (.bipush 59, 2) := by decide +kernel
theorem d_X12_readNet_54 : decode prog_14_method_35_code 54 = .ok (.invokevirtual 238, 3) := by decide +kernel
theorem d_X12_readNet_57 : decode prog_14_method_35_code 57 = .ok (.ifCond .ne 8, 3) := by decide +kernel
theorem d_X12_readNet_60 : decode prog_14_method_35_code 60 = .ok (.aload_n 0, 1) := by decide +kernel
theorem d_X12_readNet_61 : decode prog_14_method_35_code 61 = .ok (.invokevirtual 241, 3) := by decide +kernel
theorem d_X12_readNet_64 : decode prog_14_method_35_code 64 = .ok (.ireturn, 1) := by decide +kernel
theorem d_X12_readNet_65 : decode prog_14_method_35_code 65 = .ok (.aload_n 0, 1) := by decide +kernel
theorem d_X12_readNet_66 : decode prog_14_method_35_code 66 = .ok (.iconst 0, 1) := by decide +kernel
theorem d_X12_readNet_67 : decode prog_14_method_35_code 67 = .ok (.putfield 324, 3) := by decide +kernel
theorem d_X12_readNet_70 : decode prog_14_method_35_code 70 = .ok (.iconst 1, 1) := by decide +kernel
theorem d_X12_readNet_71 : decode prog_14_method_35_code 71 = .ok (.istore_n 1, 1) := by decide +kernel
theorem d_X12_readNet_72 : decode prog_14_method_35_code 72 = .ok (.iconst 0, 1) := by decide +kernel
theorem d_X12_readNet_73 : decode prog_14_method_35_code 73 = .ok (.istore_n 2, 1) := by decide +kernel
theorem d_X12_readNet_74 : decode prog_14_method_35_code 74 = .ok (.iload_n 2, 1) := by decide +kernel
theorem d_X12_readNet_75 : decode prog_14_method_35_code 75 = .ok (.aload_n 0, 1) := by decide +kernel
theorem d_X12_readNet_76 : decode prog_14_method_35_code 76 = .ok (.getfield 267, 3) := by decide +kernel
theorem d_X12_readNet_79 : decode prog_14_method_35_code 79 = .ok (.if_icmp .ge 63, 3) := by decide +kernel
theorem d_X12_readNet_82 : decode prog_14_method_35_code 82 = .ok (.iload_n 1, 1) := by decide +kernel
theorem d_X12_readNet_83 : decode prog_14_method_35_code 83 = .ok (.ifCond .eq 17, 3) := by decide +kernel
theorem d_X12_readNet_86 : decode prog_14_method_35_code 86 = .ok (.aload_n 0, 1) := by decide +kernel
theorem d_X12_readNet_87 : decode prog_14_method_35_code 87 = .ok (.getfield 110, 3) := by decide +kernel
theorem d_X12_readNet_90 : decode prog_14_method_35_code 90 = .ok (.iload_n 2, 1) := by decide +kernel
theorem d_X12_readNet_91 : decode prog_14_method_35_code 91 = .ok (.iaload, 1) := by decide +kernel
theorem d_X12_readNet_92 : decode prog_14_method_35_code 92 = .ok (.iconst 3, 1) := by decide +kernel
theorem d_X12_readNet_93 : decode prog_14_method_35_code 93 = .ok (.if_icmp .ge 7, 3) := by decide +kernel
theorem d_X12_readNet_96 : decode prog_14_method_35_code 96 = .ok (.iconst 1, 1) := by decide +kernel
theorem d_X12_readNet_97 : decode prog_14_method_35_code 97 = .ok (.goto 4, 3) := by decide +kernel
theorem d_X12_readNet_100 : decode prog_14_method_35_code 100 = .ok (.iconst 0, 1) := by decide +kernel
theorem d_X12_readNet_101 : decode prog_14_method_35_code 101 = .ok (.istore_n 1, 1) := by decide +kernel
theorem d_X12_readNet_102 : decode prog_14_method_35_code 102 = .ok (.aload_n 0, 1) := by decide +kernel
theorem d_X12_readNet_103 : decode prog_14_method_35_code 103 = .ok (.getfield 125, 3) := by decide +kernel
theorem d_X12_readNet_106 : decode prog_14_method_35_code 106 = .ok (.iload_n 2, 1) := by decide +kernel
theorem d_X12_readNet_107 : decode prog_14_method_35_code 107 = .ok (.aload_n 0, 1) := by decide +kernel
theorem d_X12_readNet_108 : decode prog_14_method_35_code 108 = .ok (.getfield 324, 3) := by decide +kernel
theorem d_X12_readNet_111 : decode prog_14_method_35_code 111 = .ok (.iastore, 1) := by decide +kernel
theorem d_X12_readNet_112 : decode prog_14_method_35_code 112 = .ok (.aload_n 0, 1) := by decide +kernel
theorem d_X12_readNet_113 : decode prog_14_method_35_code 113 = .ok (.dup, 1) := by decide +kernel
theorem d_X12_readNet_114 : decode prog_14_method_35_code 114 = .ok (.getfield 324, 3) := by decide +kernel
theorem d_X12_readNet_117 : decode prog_14_method_35_code 117 = .ok (.aload_n 0, 1) := by decide +kernel
theorem d_X12_readNet_118 : decode prog_14_method_35_code 118 = .ok (.getfield 110, 3) := by decide +kernel
theorem d_X12_readNet_121 : decode prog_14_method_35_code 121 = .ok (.iload_n 2, 1) := by decide +kernel
theorem d_X12_readNet_122 : decode prog_14_method_35_code 122 = .ok (.iaload, 1) := by decide +kernel
theorem d_X12_readNet_123 : decode prog_14_method_35_code 123 = .ok (.iconst 1, 1) := by decide +kernel
theorem d_X12_readNet_124 : decode prog_14_method_35_code 124 = .ok (.if_icmp .ne 7, 3) := by decide +kernel
theorem d_X12_readNet_127 : decode prog_14_method_35_code 127 = .ok (.iconst 1, 1) := by decide +kernel
theorem d_X12_readNet_128 : decode prog_14_method_35_code 128 = .ok (.goto 4, 3) := by decide +kernel
theorem d_X12_readNet_131 : decode prog_14_method_35_code 131 = .ok (.iconst 0, 1) := by decide +kernel
theorem d_X12_readNet_132 : decode prog_14_method_35_code 132 = .ok (.iadd, 1) := by decide +kernel
theorem d_X12_readNet_133 : decode prog_14_method_35_code 133 = .ok (.putfield 324, 3) := by decide +kernel
theorem d_X12_readNet_136 : decode prog_14_method_35_code 136 = .ok (.iinc 2 1, 3) := by decide +kernel
theorem d_X12_readNet_139 : decode prog_14_method_35_code 139 = .ok (.goto (-65), 3) := by decide +kernel
theorem d_X12_readNet_142 : decode prog_14_method_35_code 142 = .ok (.iload_n 1, 1) := by decide +kernel
theorem d_X12_readNet_143 : decode prog_14_method_35_code 143 = .ok (.ifCond .eq 19, 3) := by decide +kernel
theorem d_X12_readNet_146 : decode prog_14_method_35_code 146 = .ok (.aload_n 0, 1) := by decide +kernel
theorem d_X12_readNet_147 : decode prog_14_method_35_code 147 = .ok (.getfield 324, 3) := by decide +kernel
theorem d_X12_readNet_150 : decode prog_14_method_35_code 150 = .ok (.bipush 8, 2) := by decide +kernel
theorem d_X12_readNet_152 : decode prog_14_method_35_code 152 = .ok (.if_icmp .gt 10, 3) := by decide +kernel
theorem d_X12_readNet_155 : decode prog_14_method_35_code 155 = .ok (.aload_n 0, 1) := by decide +kernel
theorem d_X12_readNet_156 : decode prog_14_method_35_code 156 = .ok (.invokevirtual 308, 3) := by decide +kernel
theorem d_X12_readNet_159 : decode prog_14_method_35_code 159 = .ok (.ifCond .ne 14, 3) := by decide +kernel
theorem d_X12_readNet_162 : decode prog_14_method_35_code 162 = .ok (.aload_n 0, 1) := by decide +kernel
theorem d_X12_readNet_163 : decode prog_14_method_35_code 163 = .ok (.bipush 7, 2) := by decide +kernel
theorem d_X12_readNet_165 : decode prog_14_method_35_code 165 = .ok (.aload_n 0, 1) := by decide +kernel
theorem d_X12_readNet_166 : decode prog_14_method_35_code 166 = .ok (.getfield 202, 3) := by decide +kernel
theorem d_X12_readNet_169 : decode prog_14_method_35_code 169 = .ok (.invokevirtual 234, 3) := by decide +kernel
theorem d_X12_readNet_172 : decode prog_14_method_35_code 172 = .ok (.ireturn, 1) := by decide +kernel
theorem d_X12_readNet_173 : decode prog_14_method_35_code 173 = .ok (.aload_n 0, 1) := by decide +kernel
theorem d_X12_readNet_174 : decode prog_14_method_35_code 174 = .ok (.aload_n 0, 1) := by decide +kernel
theorem d_X12_readNet_175 : decode prog_14_method_35_code 175 = .ok (.getfield 261, 3) := by decide +kernel
theorem d_X12_readNet_178 : decode prog_14_method_35_code 178 = .ok (.putfield 327, 3) := by decide +kernel
theorem d_X12_readNet_181 : decode prog_14_method_35_code 181 = .ok (.iconst 0, 1) := by decide +kernel
theorem d_X12_readNet_182 : decode prog_14_method_35_code 182 = .ok (.istore_n 2, 1) := by decide +kernel
theorem d_X12_readNet_183 : decode prog_14_method_35_code 183 = .ok (.iload_n 2, 1) := by decide +kernel
theorem d_X12_readNet_184 : decode prog_14_method_35_code 184 = .ok (.aload_n 0, 1) := by decide +kernel
theorem d_X12_readNet_185 : decode prog_14_method_35_code 185 = .ok (.getfield 261, 3) := by decide +kernel
theorem d_X12_readNet_188 : decode prog_14_method_35_code 188 = .ok (.if_icmp .ge 68, 3) := by decide +kernel
theorem d_X12_readNet_191 : decode prog_14_method_35_code 191 = .ok (.aload_n 0, 1) := by decide +kernel
theorem d_X12_readNet_192 : decode prog_14_method_35_code 192 = .ok (.getfield 128, 3) := by decide +kernel
theorem d_X12_readNet_195 : decode prog_14_method_35_code 195 = .ok (.iload_n 2, 1) := by decide +kernel
theorem d_X12_readNet_196 : decode prog_14_method_35_code 196 = .ok (.aload_n 0, 1) := by decide +kernel
theorem d_X12_readNet_197 : decode prog_14_method_35_code 197 = .ok (.getfield 98, 3) := by decide +kernel
theorem d_X12_readNet_200 : decode prog_14_method_35_code 200 = .ok (.iload_n 2, 1) := by decide +kernel
theorem d_X12_readNet_201 : decode prog_14_method_35_code 201 = .ok (.iaload, 1) := by decide +kernel
theorem d_X12_readNet_202 : decode prog_14_method_35_code 202 = .ok (.iastore, 1) := by decide +kernel
theorem d_X12_readNet_203 : decode prog_14_method_35_code 203 = .ok (.iconst 0, 1) := by decide +kernel
theorem d_X12_readNet_204 : decode prog_14_method_35_code 204 = .ok (.istore_n 3, 1) := by decide +kernel
theorem d_X12_readNet_205 : decode prog_14_method_35_code 205 = .ok (.iload_n 3, 1) := by decide +kernel
theorem d_X12_readNet_206 : decode prog_14_method_35_code 206 = .ok (.aload_n 0, 1) := by decide +kernel
theorem d_X12_readNet_207 : decode prog_14_method_35_code 207 = .ok (.getfield 71, 3) := by decide +kernel
theorem d_X12_readNet_210 : decode prog_14_method_35_code 210 = .ok (.aload_n 0, 1) := by decide +kernel
theorem d_X12_readNet_211 : decode prog_14_method_35_code 211 = .ok (.getfield 98, 3) := by decide +kernel
theorem d_X12_readNet_214 : decode prog_14_method_35_code 214 = .ok (.iload_n 2, 1) := by decide +kernel
theorem d_X12_readNet_215 : decode prog_14_method_35_code 215 = .ok (.iaload, 1) := by decide +kernel
theorem d_X12_readNet_216 : decode prog_14_method_35_code 216 = .ok (.iaload, 1) := by decide +kernel
theorem d_X12_readNet_217 : decode prog_14_method_35_code 217 = .ok (.if_icmp .ge 33, 3) := by decide +kernel
theorem d_X12_readNet_220 : decode prog_14_method_35_code 220 = .ok (.aload_n 0, 1) := by decide +kernel
theorem d_X12_readNet_221 : decode prog_14_method_35_code 221 = .ok (.getfield 131, 3) := by decide +kernel
theorem d_X12_readNet_224 : decode prog_14_method_35_code 224 = .ok (.iconst 5, 1) := by decide +kernel
theorem d_X12_readNet_225 : decode prog_14_method_35_code 225 = .ok (.iload_n 2, 1) := by decide +kernel
theorem d_X12_readNet_226 : decode prog_14_method_35_code 226 = .ok (.imul, 1) := by decide +kernel
theorem d_X12_readNet_227 : decode prog_14_method_35_code 227 = .ok (.iload_n 3, 1) := by decide +kernel
theorem d_X12_readNet_228 : decode prog_14_method_35_code 228 = .ok (.iadd, 1) := by decide +kernel
theorem d_X12_readNet_229 : decode prog_14_method_35_code 229 = .ok (.aload_n 0, 1) := by decide +kernel
theorem d_X12_readNet_230 : decode prog_14_method_35_code 230 = .ok (.aload_n 0, 1) := by decide +kernel
theorem d_X12_readNet_231 : decode prog_14_method_35_code 231 = .ok (.getfield 104, 3) := by decide +kernel
theorem d_X12_readNet_234 : decode prog_14_method_35_code 234 = .ok (.iconst 5, 1) := by decide +kernel
theorem d_X12_readNet_235 : decode prog_14_method_35_code 235 = .ok (.iload_n 2, 1) := by decide +kernel
theorem d_X12_readNet_236 : decode prog_14_method_35_code 236 = .ok (.imul, 1) := by decide +kernel
theorem d_X12_readNet_237 : decode prog_14_method_35_code 237 = .ok (.iload_n 3, 1) := by decide +kernel
theorem d_X12_readNet_238 : decode prog_14_method_35_code 238 = .ok (.iadd, 1) := by decide +kernel
theorem d_X12_readNet_239 : decode prog_14_method_35_code 239 = .ok (.iaload, 1) := by decide +kernel
theorem d_X12_readNet_240 : decode prog_14_method_35_code 240 = .ok (.invokevirtual 284, 3) := by decide +kernel
theorem d_X12_readNet_243 : decode prog_14_method_35_code 243 = .ok (.iastore, 1) := by decide +kernel
theorem d_X12_readNet_244 : decode prog_14_method_35_code 244 = .ok (.iinc 3 1, 3) := by decide +kernel
theorem d_X12_readNet_247 : decode prog_14_method_35_code 247 = .ok (.goto (-42), 3) := by decide +kernel
theorem d_X12_readNet_250 : decode prog_14_method_35_code 250 = .ok (.iinc 2 1, 3) := by decide +kernel
theorem d_X12_readNet_253 : decode prog_14_method_35_code 253 = .ok (.goto (-70), 3) := by decide +kernel
theorem d_X12_readNet_256 : decode prog_14_method_35_code 256 = .ok (.iconst 0, 1) := by decide +kernel
theorem d_X12_readNet_257 : decode prog_14_method_35_code 257 = .ok (.istore_n 2, 1) := by decide +kernel
theorem d_X12_readNet_258 : decode prog_14_method_35_code 258 = .ok (.iload_n 2, 1) := by decide +kernel
theorem d_X12_readNet_259 : decode prog_14_method_35_code 259 = .ok (.aload_n 0, 1) := by decide +kernel
theorem d_X12_readNet_260 : decode prog_14_method_35_code 260 = .ok (.getfield 267, 3) := by decide +kernel
theorem d_X12_readNet_263 : decode prog_14_method_35_code 263 = .ok (.if_icmp .ge 59, 3) := by decide +kernel
theorem d_X12_readNet_266 : decode prog_14_method_35_code 266 = .ok (.aload_n 0, 1) := by decide +kernel
theorem d_X12_readNet_267 : decode prog_14_method_35_code 267 = .ok (.getfield 110, 3) := by decide +kernel
theorem d_X12_readNet_270 : decode prog_14_method_35_code 270 = .ok (.iload_n 2, 1) := by decide +kernel
theorem d_X12_readNet_271 : decode prog_14_method_35_code 271 = .ok (.iaload, 1) := by decide +kernel
theorem d_X12_readNet_272 : decode prog_14_method_35_code 272 = .ok (.iconst 1, 1) := by decide +kernel
theorem d_X12_readNet_273 : decode prog_14_method_35_code 273 = .ok (.if_icmp .ne 43, 3) := by decide +kernel
theorem d_X12_readNet_276 : decode prog_14_method_35_code 276 = .ok (.aload_n 0, 1) := by decide +kernel
theorem d_X12_readNet_277 : decode prog_14_method_35_code 277 = .ok (.getfield 122, 3) := by decide +kernel
theorem d_X12_readNet_280 : decode prog_14_method_35_code 280 = .ok (.sipush 1000, 3) := by decide +kernel
theorem d_X12_readNet_283 : decode prog_14_method_35_code 283 = .ok (.iconst 2, 1) := by decide +kernel
theorem d_X12_readNet_284 : decode prog_14_method_35_code 284 = .ok (.iload_n 2, 1) := by decide +kernel
theorem d_X12_readNet_285 : decode prog_14_method_35_code 285 = .ok (.imul, 1) := by decide +kernel
theorem d_X12_readNet_286 : decode prog_14_method_35_code 286 = .ok (.iadd, 1) := by decide +kernel
theorem d_X12_readNet_287 : decode prog_14_method_35_code 287 = .ok (.iconst 1, 1) := by decide +kernel
theorem d_X12_readNet_288 : decode prog_14_method_35_code 288 = .ok (.bastore, 1) := by decide +kernel
theorem d_X12_readNet_289 : decode prog_14_method_35_code 289 = .ok (.aload_n 0, 1) := by decide +kernel
theorem d_X12_readNet_290 : decode prog_14_method_35_code 290 = .ok (.getfield 134, 3) := by decide +kernel
theorem d_X12_readNet_293 : decode prog_14_method_35_code 293 = .ok (.aload_n 0, 1) := by decide +kernel
theorem d_X12_readNet_294 : decode prog_14_method_35_code 294 = .ok (.getfield 125, 3) := by decide +kernel
theorem d_X12_readNet_297 : decode prog_14_method_35_code 297 = .ok (.iload_n 2, 1) := by decide +kernel
theorem d_X12_readNet_298 : decode prog_14_method_35_code 298 = .ok (.iaload, 1) := by decide +kernel
theorem d_X12_readNet_299 : decode prog_14_method_35_code 299 = .ok (.aload_n 0, 1) := by decide +kernel
theorem d_X12_readNet_300 : decode prog_14_method_35_code 300 = .ok (.aload_n 0, 1) := by decide +kernel
theorem d_X12_readNet_301 : decode prog_14_method_35_code 301 = .ok (.getfield 104, 3) := by decide +kernel
theorem d_X12_readNet_304 : decode prog_14_method_35_code 304 = .ok (.sipush 1000, 3) := by decide +kernel
theorem d_X12_readNet_307 : decode prog_14_method_35_code 307 = .ok (.iconst 2, 1) := by decide +kernel
theorem d_X12_readNet_308 : decode prog_14_method_35_code 308 = .ok (.iload_n 2, 1) := by decide +kernel
theorem d_X12_readNet_309 : decode prog_14_method_35_code 309 = .ok (.imul, 1) := by decide +kernel
theorem d_X12_readNet_310 : decode prog_14_method_35_code 310 = .ok (.iadd, 1) := by decide +kernel
theorem d_X12_readNet_311 : decode prog_14_method_35_code 311 = .ok (.iaload, 1) := by decide +kernel
theorem d_X12_readNet_312 : decode prog_14_method_35_code 312 = .ok (.invokevirtual 284, 3) := by decide +kernel
theorem d_X12_readNet_315 : decode prog_14_method_35_code 315 = .ok (.iastore, 1) := by decide +kernel
theorem d_X12_readNet_316 : decode prog_14_method_35_code 316 = .ok (.iinc 2 1, 3) := by decide +kernel
theorem d_X12_readNet_319 : decode prog_14_method_35_code 319 = .ok (.goto (-61), 3) := by decide +kernel
theorem d_X12_readNet_322 : decode prog_14_method_35_code 322 = .ok (.aload_n 0, 1) := by decide +kernel
theorem d_X12_readNet_323 : decode prog_14_method_35_code 323 = .ok (.aload_n 0, 1) := by decide +kernel
theorem d_X12_readNet_324 : decode prog_14_method_35_code 324 = .ok (.invokevirtual 314, 3) := by decide +kernel
theorem d_X12_readNet_327 : decode prog_14_method_35_code 327 = .ok (.putfield 330, 3) := by decide +kernel
theorem d_X12_readNet_330 : decode prog_14_method_35_code 330 = .ok (.iconst 1, 1) := by decide +kernel
theorem d_X12_readNet_331 : decode prog_14_method_35_code 331 = .ok (.ireturn, 1) := by decide +kernel
theorem d_X12_readSide_0 : decode prog_14_method_25_code 0 = .ok (.aload_n 0, 1) := by decide +kernel
theorem d_X12_readSide_1 : decode prog_14_method_25_code 1 = .ok (.getfield 205, 3) := by decide +kernel
theorem d_X12_readSide_4 : decode prog_14_method_25_code 4 = .ok (.iconst 2, 1) := by decide +kernel
theorem d_X12_readSide_5 : decode prog_14_method_25_code 5 = .ok (.if_icmp .eq 8, 3) := by decide +kernel
theorem d_X12_readSide_8 : decode prog_14_method_25_code 8 = .ok (.aload_n 0, 1) := by decide +kernel
theorem d_X12_readSide_9 : decode prog_14_method_25_code 9 = .ok (.invokevirtual 241, 3) := by decide +kernel
theorem d_X12_readSide_12 : decode prog_14_method_25_code 12 = .ok (.ireturn, 1) := by decide +kernel
theorem d_X12_readSide_13 : decode prog_14_method_25_code 13 = .ok (.aload_n 0, 1) := by decide +kernel
theorem d_X12_readSide_14 : decode prog_14_method_25_code 14 = .ok (.aload_n 0, 1) := by decide +kernel
theorem d_X12_readSide_15 : decode prog_14_method_25_code 15 = .ok (.getfield 225, 3) := by decide +kernel
theorem d_X12_readSide_18 : decode prog_14_method_25_code 18 = .ok (.invokevirtual 251, 3) := by decide +kernel
theorem d_X12_readSide_21 : decode prog_14_method_25_code 21 = .ok (.istore_n 2, 1) := by decide +kernel
theorem d_X12_readSide_22 : decode prog_14_method_25_code 22 = .ok (.aload_n 0, 1) := by decide +kernel
theorem d_X12_readSide_23 : decode prog_14_method_25_code 23 = .ok (.getfield 202, 3) := by decide +kernel
theorem d_X12_readSide_26 : decode prog_14_method_25_code 26 = .ok (.istore_n 3, 1) := by decide +kernel
theorem d_X12_readSide_27 : decode prog_14_method_25_code 27 = .ok (.iload_n 2, 1) := by decide +kernel
theorem d_X12_readSide_28 : decode prog_14_method_25_code 28 = .ok (.ifCond .ge 10, 3) := by decide +kernel
theorem d_X12_readSide_31 : decode prog_14_method_25_code 31 = .ok (.aload_n 0, 1) := by decide +kernel
theorem d_X12_readSide_32 : decode prog_14_method_25_code 32 = .ok (.iconst 3, 1) := by decide +kernel
theorem d_X12_readSide_33 : decode prog_14_method_25_code 33 = .ok (.iload_n 3, 1) := by decide +kernel
theorem d_X12_readSide_34 : decode prog_14_method_25_code 34 = .ok (.invokevirtual 234, 3) := by decide +kernel
theorem d_X12_readSide_37 : decode prog_14_method_25_code 37 = .ok (.ireturn, 1) := by decide +kernel
theorem d_X12_readSide_38 : decode prog_14_method_25_code 38 = .ok (.aload_n 0, 1) := by decide +kernel
theorem d_X12_readSide_39 : decode prog_14_method_25_code 39 = .ok (.getfield 113, 3) := by decide +kernel
theorem d_X12_readSide_42 : decode prog_14_method_25_code 42 = .ok (.iload_n 1, 1) := by decide +kernel
theorem d_X12_readSide_43 : decode prog_14_method_25_code 43 = .ok (.iload_n 2, 1) := by decide +kernel
theorem d_X12_readSide_44 : decode prog_14_method_25_code 44 = .ok (.iastore, 1) := by decide +kernel
theorem d_X12_readSide_45 : decode prog_14_method_25_code 45 = .ok (.aload_n 0, 1) := by decide +kernel
theorem d_X12_readSide_46 : decode prog_14_method_25_code 46 = .ok (.invokevirtual 245, 3) := by decide +kernel
theorem d_X12_readSide_49 : decode prog_14_method_25_code 49 = .ok (.iconst 1, 1) := by decide +kernel
theorem d_X12_readSide_50 : decode prog_14_method_25_code 50 = .ok (.istore 4, 2) := by decide +kernel
theorem d_X12_readSide_52 : decode prog_14_method_25_code 52 = .ok (.aload_n 0, 1) := by decide +kernel
theorem d_X12_readSide_53 : decode prog_14_method_25_code 53 = .ok (.bipush 40, 2) := by decide +kernel
theorem d_X12_readSide_55 : decode prog_14_method_25_code 55 = .ok (.invokevirtual 238, 3) := by decide +kernel
theorem d_X12_readSide_58 : decode prog_14_method_25_code 58 = .ok (.istore 5, 2) := by decide +kernel
theorem d_X12_readSide_60 : decode prog_14_method_25_code 60 = .ok (.iload 5, 2) := by decide +kernel
theorem d_X12_readSide_62 : decode prog_14_method_25_code 62 = .ok (.istore 6, 2) := by decide +kernel
theorem d_X12_readSide_64 : decode prog_14_method_25_code 64 = .ok (.iload 5, 2) := by decide +kernel
theorem d_X12_readSide_66 : decode prog_14_method_25_code 66 = .ok (.ifCond .eq 86, 3) := by decide +kernel
theorem d_X12_readSide_69 : decode prog_14_method_25_code 69 = .ok (.aload_n 0, 1) := by decide +kernel
theorem d_X12_readSide_70 : decode prog_14_method_25_code 70 = .ok (.invokevirtual 245, 3) := by decide +kernel
theorem d_X12_readSide_73 : decode prog_14_method_25_code 73 = .ok (.aload_n 0, 1) := by decide +kernel
theorem d_X12_readSide_74 : decode prog_14_method_25_code 74 = .ok (.getfield 205, 3) := by decide +kernel
theorem d_X12_readSide_77 : decode prog_14_method_25_code 77 = .ok (.iconst 1, 1) := by decide +kernel
theorem d_X12_readSide_78 : decode prog_14_method_25_code 78 = .ok (.if_icmp .eq 8, 3) := by decide +kernel
theorem d_X12_readSide_81 : decode prog_14_method_25_code 81 = .ok (.aload_n 0, 1) := by decide +kernel
theorem d_X12_readSide_82 : decode prog_14_method_25_code 82 = .ok (.invokevirtual 241, 3) := by decide +kernel
theorem d_X12_readSide_85 : decode prog_14_method_25_code 85 = .ok (.ireturn, 1) := by decide +kernel
theorem d_X12_readSide_86 : decode prog_14_method_25_code 86 = .ok (.aload_n 0, 1) := by decide +kernel
theorem d_X12_readSide_87 : decode prog_14_method_25_code 87 = .ok (.invokevirtual 270, 3) := by decide +kernel
theorem d_X12_readSide_90 : decode prog_14_method_25_code 90 = .ok (.istore 7, 2) := by decide +kernel
theorem d_X12_readSide_92 : decode prog_14_method_25_code 92 = .ok (.iload 7, 2) := by decide +kernel
theorem d_X12_readSide_94 : decode prog_14_method_25_code 94 = .ok (.ifCond .ge 13, 3) := by decide +kernel
theorem d_X12_readSide_97 : decode prog_14_method_25_code 97 = .ok (.aload_n 0, 1) := by decide +kernel
theorem d_X12_readSide_98 : decode prog_14_method_25_code 98 = .ok (.iconst 4, 1) := by decide +kernel
theorem d_X12_readSide_99 : decode prog_14_method_25_code 99 = .ok (.aload_n 0, 1) := by decide +kernel
theorem d_X12_readSide_100 : decode prog_14_method_25_code 100 = .ok (.getfield 202, 3) := by decide +kernel
theorem d_X12_readSide_103 : decode prog_14_method_25_code 103 = .ok (.invokevirtual 234, 3) := by decide +kernel
theorem d_X12_readSide_106 : decode prog_14_method_25_code 106 = .ok (.ireturn, 1) := by decide +kernel
theorem d_X12_readSide_107 : decode prog_14_method_25_code 107 = .ok (.iload 4, 2) := by decide +kernel
theorem d_X12_readSide_109 : decode prog_14_method_25_code 109 = .ok (.aload_n 0, 1) := by decide +kernel
theorem d_X12_readSide_110 : decode prog_14_method_25_code 110 = .ok (.getfield 71, 3) := by decide +kernel
theorem d_X12_readSide_113 : decode prog_14_method_25_code 113 = .ok (.iload_n 2, 1) := by decide +kernel
theorem d_X12_readSide_114 : decode prog_14_method_25_code 114 = .ok (.iaload, 1) := by decide +kernel
theorem d_X12_readSide_115 : decode prog_14_method_25_code 115 = .ok (.if_icmp .ge 19, 3) := by decide +kernel
theorem d_X12_readSide_118 : decode prog_14_method_25_code 118 = .ok (.aload_n 0, 1) := by decide +kernel
theorem d_X12_readSide_119 : decode prog_14_method_25_code 119 = .ok (.sipush 1200, 3) := by decide +kernel
theorem d_X12_readSide_122 : decode prog_14_method_25_code 122 = .ok (.iconst 5, 1) := by decide +kernel
theorem d_X12_readSide_123 : decode prog_14_method_25_code 123 = .ok (.iload_n 1, 1) := by decide +kernel
theorem d_X12_readSide_124 : decode prog_14_method_25_code 124 = .ok (.imul, 1) := by decide +kernel
theorem d_X12_readSide_125 : decode prog_14_method_25_code 125 = .ok (.iadd, 1) := by decide +kernel
theorem d_X12_readSide_126 : decode prog_14_method_25_code 126 = .ok (.iload 4, 2) := by decide +kernel
theorem d_X12_readSide_128 : decode prog_14_method_25_code 128 = .ok (.iadd, 1) := by decide +kernel
theorem d_X12_readSide_129 : decode prog_14_method_25_code 129 = .ok (.iload 7, 2) := by decide +kernel
theorem d_X12_readSide_131 : decode prog_14_method_25_code 131 = .ok (.invokevirtual 277, 3) := by decide +kernel
theorem d_X12_readSide_134 : decode prog_14_method_25_code 134 = .ok (.iinc 4 1, 3) := by decide +kernel
theorem d_X12_readSide_137 : decode prog_14_method_25_code 137 = .ok (.aload_n 0, 1) := by decide +kernel
theorem d_X12_readSide_138 : decode prog_14_method_25_code 138 = .ok (.invokevirtual 245, 3) := by decide +kernel
theorem d_X12_readSide_141 : decode prog_14_method_25_code 141 = .ok (.aload_n 0, 1) := by decide +kernel
theorem d_X12_readSide_142 : decode prog_14_method_25_code 142 = .ok (.bipush 44, 2) := by decide +kernel
theorem d_X12_readSide_144 : decode prog_14_method_25_code 144 = .ok (.invokevirtual 238, 3) := by decide +kernel
theorem d_X12_readSide_147 : decode prog_14_method_25_code 147 = .ok (.istore 5, 2) := by decide +kernel
theorem d_X12_readSide_149 : decode prog_14_method_25_code 149 = .ok (.goto (-85), 3) := by decide +kernel
theorem d_X12_readSide_152 : decode prog_14_method_25_code 152 = .ok (.iload 6, 2) := by decide +kernel
theorem d_X12_readSide_154 : decode prog_14_method_25_code 154 = .ok (.ifCond .eq 17, 3) := by decide +kernel
theorem d_X12_readSide_157 : decode prog_14_method_25_code 157 = .ok (.aload_n 0, 1) := by decide +kernel
theorem d_X12_readSide_158 : decode prog_14_method_25_code 158 = .ok (.bipush 41, 2) := by decide +kernel
theorem d_X12_readSide_160 : decode prog_14_method_25_code 160 = .ok (.invokevirtual 238, 3) := by decide +kernel
theorem d_X12_readSide_163 : decode prog_14_method_25_code 163 = .ok (.ifCond .ne 8, 3) := by decide +kernel
theorem d_X12_readSide_166 : decode prog_14_method_25_code 166 = .ok (.aload_n 0, 1) := by decide +kernel
theorem d_X12_readSide_167 : decode prog_14_method_25_code 167 = .ok (.invokevirtual 241, 3) := by decide +kernel
theorem d_X12_readSide_170 : decode prog_14_method_25_code 170 = .ok (.ireturn, 1) := by decide +kernel
theorem d_X12_readSide_171 : decode prog_14_method_25_code 171 = .ok (.iload 4, 2) := by decide +kernel
theorem d_X12_readSide_173 : decode prog_14_method_25_code 173 = .ok (.aload_n 0, 1) := by decide +kernel
theorem d_X12_readSide_174 : decode prog_14_method_25_code 174 = .ok (.getfield 71, 3) := by decide +kernel
theorem d_X12_readSide_177 : decode prog_14_method_25_code 177 = .ok (.iload_n 2, 1) := by decide +kernel
theorem d_X12_readSide_178 : decode prog_14_method_25_code 178 = .ok (.iaload, 1) := by decide +kernel
theorem d_X12_readSide_179 : decode prog_14_method_25_code 179 = .ok (.if_icmp .eq 10, 3) := by decide +kernel
theorem d_X12_readSide_182 : decode prog_14_method_25_code 182 = .ok (.aload_n 0, 1) := by decide +kernel
theorem d_X12_readSide_183 : decode prog_14_method_25_code 183 = .ok (.iconst 5, 1) := by decide +kernel
theorem d_X12_readSide_184 : decode prog_14_method_25_code 184 = .ok (.iload_n 3, 1) := by decide +kernel
theorem d_X12_readSide_185 : decode prog_14_method_25_code 185 = .ok (.invokevirtual 234, 3) := by decide +kernel
theorem d_X12_readSide_188 : decode prog_14_method_25_code 188 = .ok (.ireturn, 1) := by decide +kernel
theorem d_X12_readSide_189 : decode prog_14_method_25_code 189 = .ok (.iload 6, 2) := by decide +kernel
theorem d_X12_readSide_191 : decode prog_14_method_25_code 191 = .ok (.ifCond .eq 7, 3) := by decide +kernel
theorem d_X12_readSide_194 : decode prog_14_method_25_code 194 = .ok (.aload_n 0, 1) := by decide +kernel
theorem d_X12_readSide_195 : decode prog_14_method_25_code 195 = .ok (.invokevirtual 245, 3) := by decide +kernel
theorem d_X12_readSide_198 : decode prog_14_method_25_code 198 = .ok (.iconst 1, 1) := by decide +kernel
theorem d_X12_readSide_199 : decode prog_14_method_25_code 199 = .ok (.ireturn, 1) := by decide +kernel
theorem d_X12_told_0 : decode prog_14_method_33_code 0 = .ok (.iload_n 0, 1) := by decide +kernel
theorem d_X12_told_1 : decode prog_14_method_33_code 1 = .ok (.sipush 1000, 3) := by decide +kernel
theorem d_X12_told_4 : decode prog_14_method_33_code 4 = .ok (.if_icmp .ge 7, 3) := by decide +kernel
theorem d_X12_told_7 : decode prog_14_method_33_code 7 = .ok (.iload_n 0, 1) := by decide +kernel
theorem d_X12_told_8 : decode prog_14_method_33_code 8 = .ok (.goto 11, 3) := by decide +kernel
theorem d_X12_told_11 : decode prog_14_method_33_code 11 = .ok (.bipush 60, 2) := by decide +kernel
theorem d_X12_told_13 : decode prog_14_method_33_code 13 = .ok (.iload_n 0, 1) := by decide +kernel
theorem d_X12_told_14 : decode prog_14_method_33_code 14 = .ok (.iadd, 1) := by decide +kernel
theorem d_X12_told_15 : decode prog_14_method_33_code 15 = .ok (.sipush 1200, 3) := by decide +kernel
theorem d_X12_told_18 : decode prog_14_method_33_code 18 = .ok (.isub, 1) := by decide +kernel
theorem d_X12_told_19 : decode prog_14_method_33_code 19 = .ok (.ireturn, 1) := by decide +kernel
theorem d_X12_readRule_0 : decode prog_14_method_34_code 0 = .ok (.aload_n 0, 1) := by decide +kernel
theorem d_X12_readRule_1 : decode prog_14_method_34_code 1 = .ok (.getfield 296, 3) := by decide +kernel
theorem d_X12_readRule_4 : decode prog_14_method_34_code 4 = .ok (.bipush 60, 2) := by decide +kernel
theorem d_X12_readRule_6 : decode prog_14_method_34_code 6 = .ok (.if_icmp .ne 13, 3) := by decide +kernel
theorem d_X12_readRule_9 : decode prog_14_method_34_code 9 = .ok (.aload_n 0, 1) := by decide +kernel
theorem d_X12_readRule_10 : decode prog_14_method_34_code 10 = .ok (.iconst 4, 1) := by decide +kernel
theorem d_X12_readRule_11 : decode prog_14_method_34_code 11 = .ok (.aload_n 0, 1) := by decide +kernel
theorem d_X12_readRule_12 : decode prog_14_method_34_code 12 = .ok (.getfield 202, 3) := by decide +kernel
theorem d_X12_readRule_15 : decode prog_14_method_34_code 15 = .ok (.invokevirtual 234, 3) := by decide +kernel
theorem d_X12_readRule_18 : decode prog_14_method_34_code 18 = .ok (.ireturn, 1) := by decide +kernel
theorem d_X12_readRule_19 : decode prog_14_method_34_code 19 = .ok (.aload_n 0, 1) := by decide +kernel
theorem d_X12_readRule_20 : decode prog_14_method_34_code 20 = .ok (.bipush 12, 2) := by decide +kernel
theorem d_X12_readRule_22 : decode prog_14_method_34_code 22 = .ok (.invokevirtual 299, 3) := by decide +kernel
theorem d_X12_readRule_25 : decode prog_14_method_34_code 25 = .ok (.aload_n 0, 1) := by decide +kernel
theorem d_X12_readRule_26 : decode prog_14_method_34_code 26 = .ok (.invokevirtual 245, 3) := by decide +kernel
theorem d_X12_readRule_29 : decode prog_14_method_34_code 29 = .ok (.aload_n 0, 1) := by decide +kernel
theorem d_X12_readRule_30 : decode prog_14_method_34_code 30 = .ok (.iconst 0, 1) := by decide +kernel
theorem d_X12_readRule_31 : decode prog_14_method_34_code 31 = .ok (.invokevirtual 302, 3) := by decide +kernel
theorem d_X12_readRule_34 : decode prog_14_method_34_code 34 = .ok (.ifCond .ne 5, 3) := by decide +kernel
theorem d_X12_readRule_37 : decode prog_14_method_34_code 37 = .ok (.iconst 0, 1) := by decide +kernel
theorem d_X12_readRule_38 : decode prog_14_method_34_code 38 = .ok (.ireturn, 1) := by decide +kernel
theorem d_X12_readRule_39 : decode prog_14_method_34_code 39 = .ok (.aload_n 0, 1) := by decide +kernel
theorem d_X12_readRule_40 : decode prog_14_method_34_code 40 = .ok (.getfield 205, 3) := by decide +kernel
theorem d_X12_readRule_43 : decode prog_14_method_34_code 43 = .ok (.iconst 4, 1) := by decide +kernel
theorem d_X12_readRule_44 : decode prog_14_method_34_code 44 = .ok (.if_icmp .eq 8, 3) := by decide +kernel
theorem d_X12_readRule_47 : decode prog_14_method_34_code 47 = .ok (.aload_n 0, 1) := by decide +kernel
theorem d_X12_readRule_48 : decode prog_14_method_34_code 48 = .ok (.invokevirtual 241, 3) := by decide +kernel
theorem d_X12_readRule_51 : decode prog_14_method_34_code 51 = .ok (.ireturn, 1) := by decide +kernel
theorem d_X12_readRule_52 : decode prog_14_method_34_code 52 = .ok (.aload_n 0, 1) := by decide +kernel
theorem d_X12_readRule_53 : decode prog_14_method_34_code 53 = .ok (.invokevirtual 245, 3) := by decide +kernel
theorem d_X12_readRule_56 : decode prog_14_method_34_code 56 = .ok (.aload_n 0, 1) := by decide +kernel
theorem d_X12_readRule_57 : decode prog_14_method_34_code 57 = .ok (.iconst 1, 1) := by decide +kernel
theorem d_X12_readRule_58 : decode prog_14_method_34_code 58 = .ok (.invokevirtual 302, 3) := by decide +kernel
theorem d_X12_readRule_61 : decode prog_14_method_34_code 61 = .ok (.ifCond .ne 5, 3) := by decide +kernel
theorem d_X12_readRule_64 : decode prog_14_method_34_code 64 = .ok (.iconst 0, 1) := by decide +kernel
theorem d_X12_readRule_65 : decode prog_14_method_34_code 65 = .ok (.ireturn, 1) := by decide +kernel
theorem d_X12_readRule_66 : decode prog_14_method_34_code 66 = .ok (.aload_n 0, 1) := by decide +kernel
theorem d_X12_readRule_67 : decode prog_14_method_34_code 67 = .ok (.bipush 58, 2) := by decide +kernel
theorem d_X12_readRule_69 : decode prog_14_method_34_code 69 = .ok (.invokevirtual 238, 3) := by decide +kernel
theorem d_X12_readRule_72 : decode prog_14_method_34_code 72 = .ok (.ifCond .eq 16, 3) := by decide +kernel
theorem d_X12_readRule_75 : decode prog_14_method_34_code 75 = .ok (.aload_n 0, 1) := by decide +kernel
theorem d_X12_readRule_76 : decode prog_14_method_34_code 76 = .ok (.invokevirtual 245, 3) := by decide +kernel
theorem d_X12_readRule_79 : decode prog_14_method_34_code 79 = .ok (.aload_n 0, 1) := by decide +kernel
theorem d_X12_readRule_80 : decode prog_14_method_34_code 80 = .ok (.invokevirtual 305, 3) := by decide +kernel
theorem d_X12_readRule_83 : decode prog_14_method_34_code 83 = .ok (.ifCond .ne 5, 3) := by decide +kernel
theorem d_X12_readRule_86 : decode prog_14_method_34_code 86 = .ok (.iconst 0, 1) := by decide +kernel
theorem d_X12_readRule_87 : decode prog_14_method_34_code 87 = .ok (.ireturn, 1) := by decide +kernel
theorem d_X12_readRule_88 : decode prog_14_method_34_code 88 = .ok (.aload_n 0, 1) := by decide +kernel
theorem d_X12_readRule_89 : decode prog_14_method_34_code 89 = .ok (.bipush 59, 2) := by decide +kernel
theorem d_X12_readRule_91 : decode prog_14_method_34_code 91 = .ok (.invokevirtual 238, 3) := by decide +kernel
theorem d_X12_readRule_94 : decode prog_14_method_34_code 94 = .ok (.ifCond .ne 8, 3) := by decide +kernel
theorem d_X12_readRule_97 : decode prog_14_method_34_code 97 = .ok (.aload_n 0, 1) := by decide +kernel
theorem d_X12_readRule_98 : decode prog_14_method_34_code 98 = .ok (.invokevirtual 241, 3) := by decide +kernel
theorem d_X12_readRule_101 : decode prog_14_method_34_code 101 = .ok (.ireturn, 1) := by decide +kernel
theorem d_X12_readRule_102 : decode prog_14_method_34_code 102 = .ok (.iconst 1, 1) := by decide +kernel
theorem d_X12_readRule_103 : decode prog_14_method_34_code 103 = .ok (.istore_n 1, 1) := by decide +kernel
theorem d_X12_readRule_104 : decode prog_14_method_34_code 104 = .ok (.iconst 0, 1) := by decide +kernel
theorem d_X12_readRule_105 : decode prog_14_method_34_code 105 = .ok (.istore_n 2, 1) := by decide +kernel
theorem d_X12_readRule_106 : decode prog_14_method_34_code 106 = .ok (.iload_n 2, 1) := by decide +kernel
theorem d_X12_readRule_107 : decode prog_14_method_34_code 107 = .ok (.aload_n 0, 1) := by decide +kernel
theorem d_X12_readRule_108 : decode prog_14_method_34_code 108 = .ok (.getfield 267, 3) := by decide +kernel
theorem d_X12_readRule_111 : decode prog_14_method_34_code 111 = .ok (.if_icmp .ge 29, 3) := by decide +kernel
theorem d_X12_readRule_114 : decode prog_14_method_34_code 114 = .ok (.iload_n 1, 1) := by decide +kernel
theorem d_X12_readRule_115 : decode prog_14_method_34_code 115 = .ok (.ifCond .eq 17, 3) := by decide +kernel
theorem d_X12_readRule_118 : decode prog_14_method_34_code 118 = .ok (.aload_n 0, 1) := by decide +kernel
theorem d_X12_readRule_119 : decode prog_14_method_34_code 119 = .ok (.getfield 110, 3) := by decide +kernel
theorem d_X12_readRule_122 : decode prog_14_method_34_code 122 = .ok (.iload_n 2, 1) := by decide +kernel
theorem d_X12_readRule_123 : decode prog_14_method_34_code 123 = .ok (.iaload, 1) := by decide +kernel
theorem d_X12_readRule_124 : decode prog_14_method_34_code 124 = .ok (.iconst 2, 1) := by decide +kernel
theorem d_X12_readRule_125 : decode prog_14_method_34_code 125 = .ok (.if_icmp .ne 7, 3) := by decide +kernel
theorem d_X12_readRule_128 : decode prog_14_method_34_code 128 = .ok (.iconst 1, 1) := by decide +kernel
theorem d_X12_readRule_129 : decode prog_14_method_34_code 129 = .ok (.goto 4, 3) := by decide +kernel
theorem d_X12_readRule_132 : decode prog_14_method_34_code 132 = .ok (.iconst 0, 1) := by decide +kernel
theorem d_X12_readRule_133 : decode prog_14_method_34_code 133 = .ok (.istore_n 1, 1) := by decide +kernel
theorem d_X12_readRule_134 : decode prog_14_method_34_code 134 = .ok (.iinc 2 1, 3) := by decide +kernel
theorem d_X12_readRule_137 : decode prog_14_method_34_code 137 = .ok (.goto (-31), 3) := by decide +kernel
theorem d_X12_readRule_140 : decode prog_14_method_34_code 140 = .ok (.aload_n 0, 1) := by decide +kernel
theorem d_X12_readRule_141 : decode prog_14_method_34_code 141 = .ok (.getfield 113, 3) := by decide +kernel
theorem d_X12_readRule_144 : decode prog_14_method_34_code 144 = .ok (.iconst 0, 1) := by decide +kernel
theorem d_X12_readRule_145 : decode prog_14_method_34_code 145 = .ok (.iaload, 1) := by decide +kernel
theorem d_X12_readRule_146 : decode prog_14_method_34_code 146 = .ok (.istore_n 2, 1) := by decide +kernel
theorem d_X12_readRule_147 : decode prog_14_method_34_code 147 = .ok (.aload_n 0, 1) := by decide +kernel
theorem d_X12_readRule_148 : decode prog_14_method_34_code 148 = .ok (.getfield 113, 3) := by decide +kernel
theorem d_X12_readRule_151 : decode prog_14_method_34_code 151 = .ok (.iconst 1, 1) := by decide +kernel
theorem d_X12_readRule_152 : decode prog_14_method_34_code 152 = .ok (.iaload, 1) := by decide +kernel
theorem d_X12_readRule_153 : decode prog_14_method_34_code 153 = .ok (.istore_n 3, 1) := by decide +kernel
theorem d_X12_readRule_154 : decode prog_14_method_34_code 154 = .ok (.aload_n 0, 1) := by decide +kernel
theorem d_X12_readRule_155 : decode prog_14_method_34_code 155 = .ok (.getfield 80, 3) := by decide +kernel
theorem d_X12_readRule_158 : decode prog_14_method_34_code 158 = .ok (.bipush 16, 2) := by decide +kernel
theorem d_X12_readRule_160 : decode prog_14_method_34_code 160 = .ok (.iload_n 2, 1) := by decide +kernel
theorem d_X12_readRule_161 : decode prog_14_method_34_code 161 = .ok (.imul, 1) := by decide +kernel
theorem d_X12_readRule_162 : decode prog_14_method_34_code 162 = .ok (.iload_n 3, 1) := by decide +kernel
theorem d_X12_readRule_163 : decode prog_14_method_34_code 163 = .ok (.iadd, 1) := by decide +kernel
theorem d_X12_readRule_164 : decode prog_14_method_34_code 164 = .ok (.iaload, 1) := by decide +kernel
theorem d_X12_readRule_165 : decode prog_14_method_34_code 165 = .ok (.ifCond .ge 7, 3) := by decide +kernel
theorem d_X12_readRule_168 : decode prog_14_method_34_code 168 = .ok (.iload_n 1, 1) := by decide +kernel
theorem d_X12_readRule_169 : decode prog_14_method_34_code 169 = .ok (.ifCond .ne 14, 3) := by decide +kernel
theorem d_X12_readRule_172 : decode prog_14_method_34_code 172 = .ok (.aload_n 0, 1) := by decide +kernel
theorem d_X12_readRule_173 : decode prog_14_method_34_code 173 = .ok (.bipush 6, 2) := by decide +kernel
theorem d_X12_readRule_175 : decode prog_14_method_34_code 175 = .ok (.aload_n 0, 1) := by decide +kernel
theorem d_X12_readRule_176 : decode prog_14_method_34_code 176 = .ok (.getfield 202, 3) := by decide +kernel
theorem d_X12_readRule_179 : decode prog_14_method_34_code 179 = .ok (.invokevirtual 234, 3) := by decide +kernel
theorem d_X12_readRule_182 : decode prog_14_method_34_code 182 = .ok (.ireturn, 1) := by decide +kernel
theorem d_X12_readRule_183 : decode prog_14_method_34_code 183 = .ok (.aload_n 0, 1) := by decide +kernel
theorem d_X12_readRule_184 : decode prog_14_method_34_code 184 = .ok (.invokevirtual 308, 3) := by decide +kernel
theorem d_X12_readRule_187 : decode prog_14_method_34_code 187 = .ok (.istore 4, 2) := by decide +kernel
theorem d_X12_readRule_189 : decode prog_14_method_34_code 189 = .ok (.aload_n 0, 1) := by decide +kernel
theorem d_X12_readRule_190 : decode prog_14_method_34_code 190 = .ok (.invokevirtual 311, 3) := by decide +kernel
theorem d_X12_readRule_193 : decode prog_14_method_34_code 193 = .ok (.ifCond .eq 8, 3) := by decide +kernel
theorem d_X12_readRule_196 : decode prog_14_method_34_code 196 = .ok (.iload 4, 2) := by decide +kernel
theorem d_X12_readRule_198 : decode prog_14_method_34_code 198 = .ok (.ifCond .ne 14, 3) := by decide +kernel
theorem d_X12_readRule_201 : decode prog_14_method_34_code 201 = .ok (.aload_n 0, 1) := by decide +kernel
theorem d_X12_readRule_202 : decode prog_14_method_34_code 202 = .ok (.bipush 7, 2) := by decide +kernel
theorem d_X12_readRule_204 : decode prog_14_method_34_code 204 = .ok (.aload_n 0, 1) := by decide +kernel
theorem d_X12_readRule_205 : decode prog_14_method_34_code 205 = .ok (.getfield 202, 3) := by decide +kernel
theorem d_X12_readRule_208 : decode prog_14_method_34_code 208 = .ok (.invokevirtual 234, 3) := by decide +kernel
theorem d_X12_readRule_211 : decode prog_14_method_34_code 211 = .ok (.ireturn, 1) := by decide +kernel
theorem d_X12_readRule_212 : decode prog_14_method_34_code 212 = .ok (.aload_n 0, 1) := by decide +kernel
theorem d_X12_readRule_213 : decode prog_14_method_34_code 213 = .ok (.getfield 296, 3) := by decide +kernel
theorem d_X12_readRule_216 : decode prog_14_method_34_code 216 = .ok (.istore 5, 2) := by decide +kernel
theorem d_X12_readRule_218 : decode prog_14_method_34_code 218 = .ok (.aload_n 0, 1) := by decide +kernel
theorem d_X12_readRule_219 : decode prog_14_method_34_code 219 = .ok (.getfield 95, 3) := by decide +kernel
theorem d_X12_readRule_222 : decode prog_14_method_34_code 222 = .ok (.iload 5, 2) := by decide +kernel
theorem d_X12_readRule_224 : decode prog_14_method_34_code 224 = .ok (.aload_n 0, 1) := by decide +kernel
theorem d_X12_readRule_225 : decode prog_14_method_34_code 225 = .ok (.invokevirtual 314, 3) := by decide +kernel
theorem d_X12_readRule_228 : decode prog_14_method_34_code 228 = .ok (.iastore, 1) := by decide +kernel
theorem d_X12_readRule_229 : decode prog_14_method_34_code 229 = .ok (.aload_n 0, 1) := by decide +kernel
theorem d_X12_readRule_230 : decode prog_14_method_34_code 230 = .ok (.getfield 80, 3) := by decide +kernel
theorem d_X12_readRule_233 : decode prog_14_method_34_code 233 = .ok (.bipush 16, 2) := by decide +kernel
theorem d_X12_readRule_235 : decode prog_14_method_34_code 235 = .ok (.iload_n 2, 1) := by decide +kernel
theorem d_X12_readRule_236 : decode prog_14_method_34_code 236 = .ok (.imul, 1) := by decide +kernel
theorem d_X12_readRule_237 : decode prog_14_method_34_code 237 = .ok (.iload_n 3, 1) := by decide +kernel
theorem d_X12_readRule_238 : decode prog_14_method_34_code 238 = .ok (.iadd, 1) := by decide +kernel
theorem d_X12_readRule_239 : decode prog_14_method_34_code 239 = .ok (.iload 5, 2) := by decide +kernel
theorem d_X12_readRule_241 : decode prog_14_method_34_code 241 = .ok (.iastore, 1) := by decide +kernel
theorem d_X12_readRule_242 : decode prog_14_method_34_code 242 = .ok (.aload_n 0, 1) := by decide +kernel
theorem d_X12_readRule_243 : decode prog_14_method_34_code 243 = .ok (.getfield 80, 3) := by decide +kernel
theorem d_X12_readRule_246 : decode prog_14_method_34_code 246 = .ok (.bipush 16, 2) := by decide +kernel
theorem d_X12_readRule_248 : decode prog_14_method_34_code 248 = .ok (.iload_n 3, 1) := by decide +kernel
theorem d_X12_readRule_249 : decode prog_14_method_34_code 249 = .ok (.imul, 1) := by decide +kernel
theorem d_X12_readRule_250 : decode prog_14_method_34_code 250 = .ok (.iload_n 2, 1) := by decide +kernel
theorem d_X12_readRule_251 : decode prog_14_method_34_code 251 = .ok (.iadd, 1) := by decide +kernel
theorem d_X12_readRule_252 : decode prog_14_method_34_code 252 = .ok (.iload 5, 2) := by decide +kernel
theorem d_X12_readRule_254 : decode prog_14_method_34_code 254 = .ok (.iastore, 1) := by decide +kernel
theorem d_X12_readRule_255 : decode prog_14_method_34_code 255 = .ok (.aload_n 0, 1) := by decide +kernel
theorem d_X12_readRule_256 : decode prog_14_method_34_code 256 = .ok (.getfield 83, 3) := by decide +kernel
theorem d_X12_readRule_259 : decode prog_14_method_34_code 259 = .ok (.iconst 2, 1) := by decide +kernel
theorem d_X12_readRule_260 : decode prog_14_method_34_code 260 = .ok (.iload 5, 2) := by decide +kernel
theorem d_X12_readRule_262 : decode prog_14_method_34_code 262 = .ok (.imul, 1) := by decide +kernel
theorem d_X12_readRule_263 : decode prog_14_method_34_code 263 = .ok (.iload_n 2, 1) := by decide +kernel
theorem d_X12_readRule_264 : decode prog_14_method_34_code 264 = .ok (.iastore, 1) := by decide +kernel
theorem d_X12_readRule_265 : decode prog_14_method_34_code 265 = .ok (.aload_n 0, 1) := by decide +kernel
theorem d_X12_readRule_266 : decode prog_14_method_34_code 266 = .ok (.getfield 83, 3) := by decide +kernel
theorem d_X12_readRule_269 : decode prog_14_method_34_code 269 = .ok (.iconst 2, 1) := by decide +kernel
theorem d_X12_readRule_270 : decode prog_14_method_34_code 270 = .ok (.iload 5, 2) := by decide +kernel
theorem d_X12_readRule_272 : decode prog_14_method_34_code 272 = .ok (.imul, 1) := by decide +kernel
theorem d_X12_readRule_273 : decode prog_14_method_34_code 273 = .ok (.iconst 1, 1) := by decide +kernel
theorem d_X12_readRule_274 : decode prog_14_method_34_code 274 = .ok (.iadd, 1) := by decide +kernel
theorem d_X12_readRule_275 : decode prog_14_method_34_code 275 = .ok (.iload_n 3, 1) := by decide +kernel
theorem d_X12_readRule_276 : decode prog_14_method_34_code 276 = .ok (.iastore, 1) := by decide +kernel
theorem d_X12_readRule_277 : decode prog_14_method_34_code 277 = .ok (.aload_n 0, 1) := by decide +kernel
theorem d_X12_readRule_278 : decode prog_14_method_34_code 278 = .ok (.getfield 86, 3) := by decide +kernel
theorem d_X12_readRule_281 : decode prog_14_method_34_code 281 = .ok (.iload 5, 2) := by decide +kernel
theorem d_X12_readRule_283 : decode prog_14_method_34_code 283 = .ok (.aload_n 0, 1) := by decide +kernel
theorem d_X12_readRule_284 : decode prog_14_method_34_code 284 = .ok (.getfield 261, 3) := by decide +kernel
theorem d_X12_readRule_287 : decode prog_14_method_34_code 287 = .ok (.iastore, 1) := by decide +kernel
theorem d_X12_readRule_288 : decode prog_14_method_34_code 288 = .ok (.iconst 0, 1) := by decide +kernel
theorem d_X12_readRule_289 : decode prog_14_method_34_code 289 = .ok (.istore 6, 2) := by decide +kernel
theorem d_X12_readRule_291 : decode prog_14_method_34_code 291 = .ok (.iload 6, 2) := by decide +kernel
theorem d_X12_readRule_293 : decode prog_14_method_34_code 293 = .ok (.aload_n 0, 1) := by decide +kernel
theorem d_X12_readRule_294 : decode prog_14_method_34_code 294 = .ok (.getfield 261, 3) := by decide +kernel
theorem d_X12_readRule_297 : decode prog_14_method_34_code 297 = .ok (.if_icmp .ge 92, 3) := by decide +kernel
theorem d_X12_readRule_300 : decode prog_14_method_34_code 300 = .ok (.aload_n 0, 1) := by decide +kernel
theorem d_X12_readRule_301 : decode prog_14_method_34_code 301 = .ok (.getfield 89, 3) := by decide +kernel
theorem d_X12_readRule_304 : decode prog_14_method_34_code 304 = .ok (.bipush 12, 2) := by decide +kernel
theorem d_X12_readRule_306 : decode prog_14_method_34_code 306 = .ok (.iload 5, 2) := by decide +kernel
theorem d_X12_readRule_308 : decode prog_14_method_34_code 308 = .ok (.imul, 1) := by decide +kernel
theorem d_X12_readRule_309 : decode prog_14_method_34_code 309 = .ok (.iload 6, 2) := by decide +kernel
theorem d_X12_readRule_311 : decode prog_14_method_34_code 311 = .ok (.iadd, 1) := by decide +kernel
theorem d_X12_readRule_312 : decode prog_14_method_34_code 312 = .ok (.aload_n 0, 1) := by decide +kernel
theorem d_X12_readRule_313 : decode prog_14_method_34_code 313 = .ok (.getfield 98, 3) := by decide +kernel
theorem d_X12_readRule_316 : decode prog_14_method_34_code 316 = .ok (.iload 6, 2) := by decide +kernel
theorem d_X12_readRule_318 : decode prog_14_method_34_code 318 = .ok (.iaload, 1) := by decide +kernel
theorem d_X12_readRule_319 : decode prog_14_method_34_code 319 = .ok (.iastore, 1) := by decide +kernel
theorem d_X12_readRule_320 : decode prog_14_method_34_code 320 = .ok (.iconst 0, 1) := by decide +kernel
theorem d_X12_readRule_321 : decode prog_14_method_34_code 321 = .ok (.istore 7, 2) := by decide +kernel
theorem d_X12_readRule_323 : decode prog_14_method_34_code 323 = .ok (.iload 7, 2) := by decide +kernel
theorem d_X12_readRule_325 : decode prog_14_method_34_code 325 = .ok (.aload_n 0, 1) := by decide +kernel
theorem d_X12_readRule_326 : decode prog_14_method_34_code 326 = .ok (.getfield 71, 3) := by decide +kernel
theorem d_X12_readRule_329 : decode prog_14_method_34_code 329 = .ok (.aload_n 0, 1) := by decide +kernel
theorem d_X12_readRule_330 : decode prog_14_method_34_code 330 = .ok (.getfield 98, 3) := by decide +kernel
theorem d_X12_readRule_333 : decode prog_14_method_34_code 333 = .ok (.iload 6, 2) := by decide +kernel
theorem d_X12_readRule_335 : decode prog_14_method_34_code 335 = .ok (.iaload, 1) := by decide +kernel
theorem d_X12_readRule_336 : decode prog_14_method_34_code 336 = .ok (.iaload, 1) := by decide +kernel
theorem d_X12_readRule_337 : decode prog_14_method_34_code 337 = .ok (.if_icmp .ge 46, 3) := by decide +kernel
theorem d_X12_readRule_340 : decode prog_14_method_34_code 340 = .ok (.aload_n 0, 1) := by decide +kernel
theorem d_X12_readRule_341 : decode prog_14_method_34_code 341 = .ok (.getfield 92, 3) := by decide +kernel
theorem d_X12_readRule_344 : decode prog_14_method_34_code 344 = .ok (.bipush 70, 2) := by decide +kernel
theorem d_X12_readRule_346 : decode prog_14_method_34_code 346 = .ok (.iload 5, 2) := by decide +kernel
theorem d_X12_readRule_348 : decode prog_14_method_34_code 348 = .ok (.imul, 1) := by decide +kernel
theorem d_X12_readRule_349 : decode prog_14_method_34_code 349 = .ok (.iconst 5, 1) := by decide +kernel
theorem d_X12_readRule_350 : decode prog_14_method_34_code 350 = .ok (.iload 6, 2) := by decide +kernel
theorem d_X12_readRule_352 : decode prog_14_method_34_code 352 = .ok (.imul, 1) := by decide +kernel
theorem d_X12_readRule_353 : decode prog_14_method_34_code 353 = .ok (.iadd, 1) := by decide +kernel
theorem d_X12_readRule_354 : decode prog_14_method_34_code 354 = .ok (.iload 7, 2) := by decide +kernel
theorem d_X12_readRule_356 : decode prog_14_method_34_code 356 = .ok (.iadd, 1) := by decide +kernel
theorem d_X12_readRule_357 : decode prog_14_method_34_code 357 = .ok (.aload_n 0, 1) := by decide +kernel
theorem d_X12_readRule_358 : decode prog_14_method_34_code 358 = .ok (.aload_n 0, 1) := by decide +kernel
theorem d_X12_readRule_359 : decode prog_14_method_34_code 359 = .ok (.getfield 104, 3) := by decide +kernel
theorem d_X12_readRule_362 : decode prog_14_method_34_code 362 = .ok (.iconst 5, 1) := by decide +kernel
theorem d_X12_readRule_363 : decode prog_14_method_34_code 363 = .ok (.iload 6, 2) := by decide +kernel
theorem d_X12_readRule_365 : decode prog_14_method_34_code 365 = .ok (.imul, 1) := by decide +kernel
theorem d_X12_readRule_366 : decode prog_14_method_34_code 366 = .ok (.iload 7, 2) := by decide +kernel
theorem d_X12_readRule_368 : decode prog_14_method_34_code 368 = .ok (.iadd, 1) := by decide +kernel
theorem d_X12_readRule_369 : decode prog_14_method_34_code 369 = .ok (.iaload, 1) := by decide +kernel
theorem d_X12_readRule_370 : decode prog_14_method_34_code 370 = .ok (.invokevirtual 284, 3) := by decide +kernel
theorem d_X12_readRule_373 : decode prog_14_method_34_code 373 = .ok (.invokestatic 317, 3) := by decide +kernel
theorem d_X12_readRule_376 : decode prog_14_method_34_code 376 = .ok (.iastore, 1) := by decide +kernel
theorem d_X12_readRule_377 : decode prog_14_method_34_code 377 = .ok (.iinc 7 1, 3) := by decide +kernel
theorem d_X12_readRule_380 : decode prog_14_method_34_code 380 = .ok (.goto (-57), 3) := by decide +kernel
theorem d_X12_readRule_383 : decode prog_14_method_34_code 383 = .ok (.iinc 6 1, 3) := by decide +kernel
theorem d_X12_readRule_386 : decode prog_14_method_34_code 386 = .ok (.goto (-95), 3) := by decide +kernel
theorem d_X12_readRule_389 : decode prog_14_method_34_code 389 = .ok (.iconst 0, 1) := by decide +kernel
theorem d_X12_readRule_390 : decode prog_14_method_34_code 390 = .ok (.istore 6, 2) := by decide +kernel
theorem d_X12_readRule_392 : decode prog_14_method_34_code 392 = .ok (.iload 6, 2) := by decide +kernel
theorem d_X12_readRule_394 : decode prog_14_method_34_code 394 = .ok (.iconst 2, 1) := by decide +kernel
theorem d_X12_readRule_395 : decode prog_14_method_34_code 395 = .ok (.if_icmp .ge 79, 3) := by decide +kernel
theorem d_X12_readRule_398 : decode prog_14_method_34_code 398 = .ok (.iconst 1, 1) := by decide +kernel
theorem d_X12_readRule_399 : decode prog_14_method_34_code 399 = .ok (.istore 7, 2) := by decide +kernel
theorem d_X12_readRule_401 : decode prog_14_method_34_code 401 = .ok (.iload 7, 2) := by decide +kernel
theorem d_X12_readRule_403 : decode prog_14_method_34_code 403 = .ok (.aload_n 0, 1) := by decide +kernel
theorem d_X12_readRule_404 : decode prog_14_method_34_code 404 = .ok (.getfield 71, 3) := by decide +kernel
theorem d_X12_readRule_407 : decode prog_14_method_34_code 407 = .ok (.aload_n 0, 1) := by decide +kernel
theorem d_X12_readRule_408 : decode prog_14_method_34_code 408 = .ok (.getfield 113, 3) := by decide +kernel
theorem d_X12_readRule_411 : decode prog_14_method_34_code 411 = .ok (.iload 6, 2) := by decide +kernel
theorem d_X12_readRule_413 : decode prog_14_method_34_code 413 = .ok (.iaload, 1) := by decide +kernel
theorem d_X12_readRule_414 : decode prog_14_method_34_code 414 = .ok (.iaload, 1) := by decide +kernel
theorem d_X12_readRule_415 : decode prog_14_method_34_code 415 = .ok (.if_icmp .ge 53, 3) := by decide +kernel
theorem d_X12_readRule_418 : decode prog_14_method_34_code 418 = .ok (.aload_n 0, 1) := by decide +kernel
theorem d_X12_readRule_419 : decode prog_14_method_34_code 419 = .ok (.getfield 92, 3) := by decide +kernel
theorem d_X12_readRule_422 : decode prog_14_method_34_code 422 = .ok (.bipush 70, 2) := by decide +kernel
theorem d_X12_readRule_424 : decode prog_14_method_34_code 424 = .ok (.iload 5, 2) := by decide +kernel
theorem d_X12_readRule_426 : decode prog_14_method_34_code 426 = .ok (.imul, 1) := by decide +kernel
theorem d_X12_readRule_427 : decode prog_14_method_34_code 427 = .ok (.bipush 60, 2) := by decide +kernel
theorem d_X12_readRule_429 : decode prog_14_method_34_code 429 = .ok (.iadd, 1) := by decide +kernel
theorem d_X12_readRule_430 : decode prog_14_method_34_code 430 = .ok (.iconst 5, 1) := by decide +kernel
theorem d_X12_readRule_431 : decode prog_14_method_34_code 431 = .ok (.iload 6, 2) := by decide +kernel
theorem d_X12_readRule_433 : decode prog_14_method_34_code 433 = .ok (.imul, 1) := by decide +kernel
theorem d_X12_readRule_434 : decode prog_14_method_34_code 434 = .ok (.iadd, 1) := by decide +kernel
theorem d_X12_readRule_435 : decode prog_14_method_34_code 435 = .ok (.iload 7, 2) := by decide +kernel
theorem d_X12_readRule_437 : decode prog_14_method_34_code 437 = .ok (.iadd, 1) := by decide +kernel
theorem d_X12_readRule_438 : decode prog_14_method_34_code 438 = .ok (.aload_n 0, 1) := by decide +kernel
theorem d_X12_readRule_439 : decode prog_14_method_34_code 439 = .ok (.aload_n 0, 1) := by decide +kernel
theorem d_X12_readRule_440 : decode prog_14_method_34_code 440 = .ok (.getfield 104, 3) := by decide +kernel
theorem d_X12_readRule_443 : decode prog_14_method_34_code 443 = .ok (.sipush 1200, 3) := by decide +kernel
theorem d_X12_readRule_446 : decode prog_14_method_34_code 446 = .ok (.iconst 5, 1) := by decide +kernel
theorem d_X12_readRule_447 : decode prog_14_method_34_code 447 = .ok (.iload 6, 2) := by decide +kernel
theorem d_X12_readRule_449 : decode prog_14_method_34_code 449 = .ok (.imul, 1) := by decide +kernel
theorem d_X12_readRule_450 : decode prog_14_method_34_code 450 = .ok (.iadd, 1) := by decide +kernel
theorem d_X12_readRule_451 : decode prog_14_method_34_code 451 = .ok (.iload 7, 2) := by decide +kernel
theorem d_X12_readRule_453 : decode prog_14_method_34_code 453 = .ok (.iadd, 1) := by decide +kernel
theorem d_X12_readRule_454 : decode prog_14_method_34_code 454 = .ok (.iaload, 1) := by decide +kernel
theorem d_X12_readRule_455 : decode prog_14_method_34_code 455 = .ok (.invokevirtual 284, 3) := by decide +kernel
theorem d_X12_readRule_458 : decode prog_14_method_34_code 458 = .ok (.invokestatic 317, 3) := by decide +kernel
theorem d_X12_readRule_461 : decode prog_14_method_34_code 461 = .ok (.iastore, 1) := by decide +kernel
theorem d_X12_readRule_462 : decode prog_14_method_34_code 462 = .ok (.iinc 7 1, 3) := by decide +kernel
theorem d_X12_readRule_465 : decode prog_14_method_34_code 465 = .ok (.goto (-64), 3) := by decide +kernel
theorem d_X12_readRule_468 : decode prog_14_method_34_code 468 = .ok (.iinc 6 1, 3) := by decide +kernel
theorem d_X12_readRule_471 : decode prog_14_method_34_code 471 = .ok (.goto (-79), 3) := by decide +kernel
theorem d_X12_readRule_474 : decode prog_14_method_34_code 474 = .ok (.aload_n 0, 1) := by decide +kernel
theorem d_X12_readRule_475 : decode prog_14_method_34_code 475 = .ok (.dup, 1) := by decide +kernel
theorem d_X12_readRule_476 : decode prog_14_method_34_code 476 = .ok (.getfield 296, 3) := by decide +kernel
theorem d_X12_readRule_479 : decode prog_14_method_34_code 479 = .ok (.iconst 1, 1) := by decide +kernel
theorem d_X12_readRule_480 : decode prog_14_method_34_code 480 = .ok (.iadd, 1) := by decide +kernel
theorem d_X12_readRule_481 : decode prog_14_method_34_code 481 = .ok (.putfield 296, 3) := by decide +kernel
theorem d_X12_readRule_484 : decode prog_14_method_34_code 484 = .ok (.iconst 1, 1) := by decide +kernel
theorem d_X12_readRule_485 : decode prog_14_method_34_code 485 = .ok (.ireturn, 1) := by decide +kernel
theorem d_X12_readBook_0 : decode prog_14_method_36_code 0 = .ok (.aload_n 0, 1) := by decide +kernel
theorem d_X12_readBook_1 : decode prog_14_method_36_code 1 = .ok (.invokevirtual 245, 3) := by decide +kernel
theorem d_X12_readBook_4 : decode prog_14_method_36_code 4 = .ok (.aload_n 0, 1) := by decide +kernel
theorem d_X12_readBook_5 : decode prog_14_method_36_code 5 = .ok (.getfield 205, 3) := by decide +kernel
theorem d_X12_readBook_8 : decode prog_14_method_36_code 8 = .ok (.iconst 5, 1) := by decide +kernel
theorem d_X12_readBook_9 : decode prog_14_method_36_code 9 = .ok (.if_icmp .eq 104, 3) := by decide +kernel
theorem d_X12_readBook_12 : decode prog_14_method_36_code 12 = .ok (.aload_n 0, 1) := by decide +kernel
theorem d_X12_readBook_13 : decode prog_14_method_36_code 13 = .ok (.getfield 205, 3) := by decide +kernel
theorem d_X12_readBook_16 : decode prog_14_method_36_code 16 = .ok (.iconst 1, 1) := by decide +kernel
theorem d_X12_readBook_17 : decode prog_14_method_36_code 17 = .ok (.if_icmp .ne 7, 3) := by decide +kernel
theorem d_X12_readBook_20 : decode prog_14_method_36_code 20 = .ok (.iconst 1, 1) := by decide +kernel
theorem d_X12_readBook_21 : decode prog_14_method_36_code 21 = .ok (.goto 4, 3) := by decide +kernel
theorem d_X12_readBook_24 : decode prog_14_method_36_code 24 = .ok (.iconst 0, 1) := by decide +kernel
theorem d_X12_readBook_25 : decode prog_14_method_36_code 25 = .ok (.istore_n 1, 1) := by decide +kernel
theorem d_X12_readBook_26 : decode prog_14_method_36_code 26 = .ok (.iload_n 1, 1) := by decide +kernel
theorem d_X12_readBook_27 : decode prog_14_method_36_code 27 = .ok (.ifCond .eq 22, 3) := by decide +kernel
theorem d_X12_readBook_30 : decode prog_14_method_36_code 30 = .ok (.aload_n 0, 1) := by decide +kernel
theorem d_X12_readBook_31 : decode prog_14_method_36_code 31 = .ok (.getfield 225, 3) := by decide +kernel
theorem d_X12_readBook_34 : decode prog_14_method_36_code 34 = .ok (.ldc2_w 333, 3) := by decide +kernel
theorem d_X12_readBook_37 : decode prog_14_method_36_code 37 = .ok (.lcmp, 1) := by decide +kernel
theorem d_X12_readBook_38 : decode prog_14_method_36_code 38 = .ok (.ifCond .ne 11, 3) := by decide +kernel
theorem d_X12_readBook_41 : decode prog_14_method_36_code 41 = .ok (.aload_n 0, 1) := by decide +kernel
theorem d_X12_readBook_42 : decode prog_14_method_36_code 42 = .ok (.invokevirtual 335, 3) := by decide +kernel
theorem d_X12_readBook_45 : decode prog_14_method_36_code 45 = .ok (.istore_n 2, 1) := by decide +kernel
theorem d_X12_readBook_46 : decode prog_14_method_36_code 46 = .ok (.goto 54, 3) := by decide +kernel
theorem d_X12_readBook_49 : decode prog_14_method_36_code 49 = .ok (.iload_n 1, 1) := by decide +kernel
theorem d_X12_readBook_50 : decode prog_14_method_36_code 50 = .ok (.ifCond .eq 22, 3) := by decide +kernel
theorem d_X12_readBook_53 : decode prog_14_method_36_code 53 = .ok (.aload_n 0, 1) := by decide +kernel
theorem d_X12_readBook_54 : decode prog_14_method_36_code 54 = .ok (.getfield 225, 3) := by decide +kernel
theorem d_X12_readBook_57 : decode prog_14_method_36_code 57 = .ok (.ldc2_w 338, 3) := by decide +kernel
theorem d_X12_readBook_60 : decode prog_14_method_36_code 60 = .ok (.lcmp, 1) := by decide +kernel
theorem d_X12_readBook_61 : decode prog_14_method_36_code 61 = .ok (.ifCond .ne 11, 3) := by decide +kernel
theorem d_X12_readBook_64 : decode prog_14_method_36_code 64 = .ok (.aload_n 0, 1) := by decide +kernel
theorem d_X12_readBook_65 : decode prog_14_method_36_code 65 = .ok (.invokevirtual 340, 3) := by decide +kernel
theorem d_X12_readBook_68 : decode prog_14_method_36_code 68 = .ok (.istore_n 2, 1) := by decide +kernel
theorem d_X12_readBook_69 : decode prog_14_method_36_code 69 = .ok (.goto 31, 3) := by decide +kernel
theorem d_X12_readBook_72 : decode prog_14_method_36_code 72 = .ok (.iload_n 1, 1) := by decide +kernel
theorem d_X12_readBook_73 : decode prog_14_method_36_code 73 = .ok (.ifCond .eq 22, 3) := by decide +kernel
theorem d_X12_readBook_76 : decode prog_14_method_36_code 76 = .ok (.aload_n 0, 1) := by decide +kernel
theorem d_X12_readBook_77 : decode prog_14_method_36_code 77 = .ok (.getfield 225, 3) := by decide +kernel
theorem d_X12_readBook_80 : decode prog_14_method_36_code 80 = .ok (.ldc2_w 343, 3) := by decide +kernel
theorem d_X12_readBook_83 : decode prog_14_method_36_code 83 = .ok (.lcmp, 1) := by decide +kernel
theorem d_X12_readBook_84 : decode prog_14_method_36_code 84 = .ok (.ifCond .ne 11, 3) := by decide +kernel
theorem d_X12_readBook_87 : decode prog_14_method_36_code 87 = .ok (.aload_n 0, 1) := by decide +kernel
theorem d_X12_readBook_88 : decode prog_14_method_36_code 88 = .ok (.invokevirtual 345, 3) := by decide +kernel
theorem d_X12_readBook_91 : decode prog_14_method_36_code 91 = .ok (.istore_n 2, 1) := by decide +kernel
theorem d_X12_readBook_92 : decode prog_14_method_36_code 92 = .ok (.goto 8, 3) := by decide +kernel
theorem d_X12_readBook_95 : decode prog_14_method_36_code 95 = .ok (.aload_n 0, 1) := by decide +kernel
theorem d_X12_readBook_96 : decode prog_14_method_36_code 96 = .ok (.invokevirtual 241, 3) := by decide +kernel
theorem d_X12_readBook_99 : decode prog_14_method_36_code 99 = .ok (.istore_n 2, 1) := by decide +kernel
theorem d_X12_readBook_100 : decode prog_14_method_36_code 100 = .ok (.iload_n 2, 1) := by decide +kernel
theorem d_X12_readBook_101 : decode prog_14_method_36_code 101 = .ok (.ifCond .ne 5, 3) := by decide +kernel
theorem d_X12_readBook_104 : decode prog_14_method_36_code 104 = .ok (.iconst 0, 1) := by decide +kernel
theorem d_X12_readBook_105 : decode prog_14_method_36_code 105 = .ok (.ireturn, 1) := by decide +kernel
theorem d_X12_readBook_106 : decode prog_14_method_36_code 106 = .ok (.aload_n 0, 1) := by decide +kernel
theorem d_X12_readBook_107 : decode prog_14_method_36_code 107 = .ok (.invokevirtual 245, 3) := by decide +kernel
theorem d_X12_readBook_110 : decode prog_14_method_36_code 110 = .ok (.goto (-106), 3) := by decide +kernel
theorem d_X12_readBook_113 : decode prog_14_method_36_code 113 = .ok (.iconst 1, 1) := by decide +kernel
theorem d_X12_readBook_114 : decode prog_14_method_36_code 114 = .ok (.ireturn, 1) := by decide +kernel
theorem d_X12_takeOver_0 : decode prog_14_method_38_code 0 = .ok (.aload_n 0, 1) := by decide +kernel
theorem d_X12_takeOver_1 : decode prog_14_method_38_code 1 = .ok (.aload_n 0, 1) := by decide +kernel
theorem d_X12_takeOver_2 : decode prog_14_method_38_code 2 = .ok (.getfield 248, 3) := by decide +kernel
theorem d_X12_takeOver_5 : decode prog_14_method_38_code 5 = .ok (.putfield 354, 3) := by decide +kernel
theorem d_X12_takeOver_8 : decode prog_14_method_38_code 8 = .ok (.aload_n 0, 1) := by decide +kernel
theorem d_X12_takeOver_9 : decode prog_14_method_38_code 9 = .ok (.aload_n 0, 1) := by decide +kernel
theorem d_X12_takeOver_10 : decode prog_14_method_38_code 10 = .ok (.getfield 296, 3) := by decide +kernel
theorem d_X12_takeOver_13 : decode prog_14_method_38_code 13 = .ok (.putfield 357, 3) := by decide +kernel
theorem d_X12_takeOver_16 : decode prog_14_method_38_code 16 = .ok (.iconst 0, 1) := by decide +kernel
theorem d_X12_takeOver_17 : decode prog_14_method_38_code 17 = .ok (.istore_n 1, 1) := by decide +kernel
theorem d_X12_takeOver_18 : decode prog_14_method_38_code 18 = .ok (.iload_n 1, 1) := by decide +kernel
theorem d_X12_takeOver_19 : decode prog_14_method_38_code 19 = .ok (.bipush 16, 2) := by decide +kernel
theorem d_X12_takeOver_21 : decode prog_14_method_38_code 21 = .ok (.if_icmp .ge 33, 3) := by decide +kernel
theorem d_X12_takeOver_24 : decode prog_14_method_38_code 24 = .ok (.aload_n 0, 1) := by decide +kernel
theorem d_X12_takeOver_25 : decode prog_14_method_38_code 25 = .ok (.getfield 17, 3) := by decide +kernel
theorem d_X12_takeOver_28 : decode prog_14_method_38_code 28 = .ok (.iload_n 1, 1) := by decide +kernel
theorem d_X12_takeOver_29 : decode prog_14_method_38_code 29 = .ok (.aload_n 0, 1) := by decide +kernel
theorem d_X12_takeOver_30 : decode prog_14_method_38_code 30 = .ok (.getfield 68, 3) := by decide +kernel
theorem d_X12_takeOver_33 : decode prog_14_method_38_code 33 = .ok (.iload_n 1, 1) := by decide +kernel
theorem d_X12_takeOver_34 : decode prog_14_method_38_code 34 = .ok (.laload, 1) := by decide +kernel
theorem d_X12_takeOver_35 : decode prog_14_method_38_code 35 = .ok (.lastore, 1) := by decide +kernel
theorem d_X12_takeOver_36 : decode prog_14_method_38_code 36 = .ok (.aload_n 0, 1) := by decide +kernel
theorem d_X12_takeOver_37 : decode prog_14_method_38_code 37 = .ok (.getfield 21, 3) := by decide +kernel
theorem d_X12_takeOver_40 : decode prog_14_method_38_code 40 = .ok (.iload_n 1, 1) := by decide +kernel
theorem d_X12_takeOver_41 : decode prog_14_method_38_code 41 = .ok (.aload_n 0, 1) := by decide +kernel
theorem d_X12_takeOver_42 : decode prog_14_method_38_code 42 = .ok (.getfield 71, 3) := by decide +kernel
theorem d_X12_takeOver_45 : decode prog_14_method_38_code 45 = .ok (.iload_n 1, 1) := by decide +kernel
theorem d_X12_takeOver_46 : decode prog_14_method_38_code 46 = .ok (.iaload, 1) := by decide +kernel
theorem d_X12_takeOver_47 : decode prog_14_method_38_code 47 = .ok (.iastore, 1) := by decide +kernel
theorem d_X12_takeOver_48 : decode prog_14_method_38_code 48 = .ok (.iinc 1 1, 3) := by decide +kernel
theorem d_X12_takeOver_51 : decode prog_14_method_38_code 51 = .ok (.goto (-33), 3) := by decide +kernel
theorem d_X12_takeOver_54 : decode prog_14_method_38_code 54 = .ok (.iconst 0, 1) := by decide +kernel
theorem d_X12_takeOver_55 : decode prog_14_method_38_code 55 = .ok (.istore_n 1, 1) := by decide +kernel
theorem d_X12_takeOver_56 : decode prog_14_method_38_code 56 = .ok (.iload_n 1, 1) := by decide +kernel
theorem d_X12_takeOver_57 : decode prog_14_method_38_code 57 = .ok (.bipush 80, 2) := by decide +kernel
theorem d_X12_takeOver_59 : decode prog_14_method_38_code 59 = .ok (.if_icmp .ge 33, 3) := by decide +kernel
theorem d_X12_takeOver_62 : decode prog_14_method_38_code 62 = .ok (.aload_n 0, 1) := by decide +kernel
theorem d_X12_takeOver_63 : decode prog_14_method_38_code 63 = .ok (.getfield 24, 3) := by decide +kernel
theorem d_X12_takeOver_66 : decode prog_14_method_38_code 66 = .ok (.iload_n 1, 1) := by decide +kernel
theorem d_X12_takeOver_67 : decode prog_14_method_38_code 67 = .ok (.aload_n 0, 1) := by decide +kernel
theorem d_X12_takeOver_68 : decode prog_14_method_38_code 68 = .ok (.getfield 74, 3) := by decide +kernel
theorem d_X12_takeOver_71 : decode prog_14_method_38_code 71 = .ok (.iload_n 1, 1) := by decide +kernel
theorem d_X12_takeOver_72 : decode prog_14_method_38_code 72 = .ok (.iaload, 1) := by decide +kernel
theorem d_X12_takeOver_73 : decode prog_14_method_38_code 73 = .ok (.iastore, 1) := by decide +kernel
theorem d_X12_takeOver_74 : decode prog_14_method_38_code 74 = .ok (.aload_n 0, 1) := by decide +kernel
theorem d_X12_takeOver_75 : decode prog_14_method_38_code 75 = .ok (.getfield 27, 3) := by decide +kernel
theorem d_X12_takeOver_78 : decode prog_14_method_38_code 78 = .ok (.iload_n 1, 1) := by decide +kernel
theorem d_X12_takeOver_79 : decode prog_14_method_38_code 79 = .ok (.aload_n 0, 1) := by decide +kernel
theorem d_X12_takeOver_80 : decode prog_14_method_38_code 80 = .ok (.getfield 77, 3) := by decide +kernel
theorem d_X12_takeOver_83 : decode prog_14_method_38_code 83 = .ok (.iload_n 1, 1) := by decide +kernel
theorem d_X12_takeOver_84 : decode prog_14_method_38_code 84 = .ok (.baload, 1) := by decide +kernel
theorem d_X12_takeOver_85 : decode prog_14_method_38_code 85 = .ok (.bastore, 1) := by decide +kernel
theorem d_X12_takeOver_86 : decode prog_14_method_38_code 86 = .ok (.iinc 1 1, 3) := by decide +kernel
theorem d_X12_takeOver_89 : decode prog_14_method_38_code 89 = .ok (.goto (-33), 3) := by decide +kernel
theorem d_X12_takeOver_92 : decode prog_14_method_38_code 92 = .ok (.iconst 0, 1) := by decide +kernel
theorem d_X12_takeOver_93 : decode prog_14_method_38_code 93 = .ok (.istore_n 1, 1) := by decide +kernel
theorem d_X12_takeOver_94 : decode prog_14_method_38_code 94 = .ok (.iload_n 1, 1) := by decide +kernel
theorem d_X12_takeOver_95 : decode prog_14_method_38_code 95 = .ok (.sipush 256, 3) := by decide +kernel
theorem d_X12_takeOver_98 : decode prog_14_method_38_code 98 = .ok (.if_icmp .ge 21, 3) := by decide +kernel
theorem d_X12_takeOver_101 : decode prog_14_method_38_code 101 = .ok (.aload_n 0, 1) := by decide +kernel
theorem d_X12_takeOver_102 : decode prog_14_method_38_code 102 = .ok (.getfield 31, 3) := by decide +kernel
theorem d_X12_takeOver_105 : decode prog_14_method_38_code 105 = .ok (.iload_n 1, 1) := by decide +kernel
theorem d_X12_takeOver_106 : decode prog_14_method_38_code 106 = .ok (.aload_n 0, 1) := by decide +kernel
theorem d_X12_takeOver_107 : decode prog_14_method_38_code 107 = .ok (.getfield 80, 3) := by decide +kernel
theorem d_X12_takeOver_110 : decode prog_14_method_38_code 110 = .ok (.iload_n 1, 1) := by decide +kernel
theorem d_X12_takeOver_111 : decode prog_14_method_38_code 111 = .ok (.iaload, 1) := by decide +kernel
theorem d_X12_takeOver_112 : decode prog_14_method_38_code 112 = .ok (.iastore, 1) := by decide +kernel
theorem d_X12_takeOver_113 : decode prog_14_method_38_code 113 = .ok (.iinc 1 1, 3) := by decide +kernel
theorem d_X12_takeOver_116 : decode prog_14_method_38_code 116 = .ok (.goto (-22), 3) := by decide +kernel
theorem d_X12_takeOver_119 : decode prog_14_method_38_code 119 = .ok (.iconst 0, 1) := by decide +kernel
theorem d_X12_takeOver_120 : decode prog_14_method_38_code 120 = .ok (.istore_n 1, 1) := by decide +kernel
theorem d_X12_takeOver_121 : decode prog_14_method_38_code 121 = .ok (.iload_n 1, 1) := by decide +kernel
theorem d_X12_takeOver_122 : decode prog_14_method_38_code 122 = .ok (.bipush 60, 2) := by decide +kernel
theorem d_X12_takeOver_124 : decode prog_14_method_38_code 124 = .ok (.if_icmp .ge 69, 3) := by decide +kernel
theorem d_X12_takeOver_127 : decode prog_14_method_38_code 127 = .ok (.aload_n 0, 1) := by decide +kernel
theorem d_X12_takeOver_128 : decode prog_14_method_38_code 128 = .ok (.getfield 37, 3) := by decide +kernel
theorem d_X12_takeOver_131 : decode prog_14_method_38_code 131 = .ok (.iload_n 1, 1) := by decide +kernel
theorem d_X12_takeOver_132 : decode prog_14_method_38_code 132 = .ok (.aload_n 0, 1) := by decide +kernel
theorem d_X12_takeOver_133 : decode prog_14_method_38_code 133 = .ok (.getfield 86, 3) := by decide +kernel
theorem d_X12_takeOver_136 : decode prog_14_method_38_code 136 = .ok (.iload_n 1, 1) := by decide +kernel
theorem d_X12_takeOver_137 : decode prog_14_method_38_code 137 = .ok (.iaload, 1) := by decide +kernel
theorem d_X12_takeOver_138 : decode prog_14_method_38_code 138 = .ok (.iastore, 1) := by decide +kernel
theorem d_X12_takeOver_139 : decode prog_14_method_38_code 139 = .ok (.aload_n 0, 1) := by decide +kernel
theorem d_X12_takeOver_140 : decode prog_14_method_38_code 140 = .ok (.getfield 46, 3) := by decide +kernel
theorem d_X12_takeOver_143 : decode prog_14_method_38_code 143 = .ok (.iload_n 1, 1) := by decide +kernel
theorem d_X12_takeOver_144 : decode prog_14_method_38_code 144 = .ok (.aload_n 0, 1) := by decide +kernel
theorem d_X12_takeOver_145 : decode prog_14_method_38_code 145 = .ok (.getfield 95, 3) := by decide +kernel
theorem d_X12_takeOver_148 : decode prog_14_method_38_code 148 = .ok (.iload_n 1, 1) := by decide +kernel
theorem d_X12_takeOver_149 : decode prog_14_method_38_code 149 = .ok (.iaload, 1) := by decide +kernel
theorem d_X12_takeOver_150 : decode prog_14_method_38_code 150 = .ok (.iastore, 1) := by decide +kernel
theorem d_X12_takeOver_151 : decode prog_14_method_38_code 151 = .ok (.aload_n 0, 1) := by decide +kernel
theorem d_X12_takeOver_152 : decode prog_14_method_38_code 152 = .ok (.getfield 34, 3) := by decide +kernel
theorem d_X12_takeOver_155 : decode prog_14_method_38_code 155 = .ok (.iconst 2, 1) := by decide +kernel
theorem d_X12_takeOver_156 : decode prog_14_method_38_code 156 = .ok (.iload_n 1, 1) := by decide +kernel
theorem d_X12_takeOver_157 : decode prog_14_method_38_code 157 = .ok (.imul, 1) := by decide +kernel
theorem d_X12_takeOver_158 : decode prog_14_method_38_code 158 = .ok (.aload_n 0, 1) := by decide +kernel
theorem d_X12_takeOver_159 : decode prog_14_method_38_code 159 = .ok (.getfield 83, 3) := by decide +kernel
theorem d_X12_takeOver_162 : decode prog_14_method_38_code 162 = .ok (.iconst 2, 1) := by decide +kernel
theorem d_X12_takeOver_163 : decode prog_14_method_38_code 163 = .ok (.iload_n 1, 1) := by decide +kernel
theorem d_X12_takeOver_164 : decode prog_14_method_38_code 164 = .ok (.imul, 1) := by decide +kernel
theorem d_X12_takeOver_165 : decode prog_14_method_38_code 165 = .ok (.iaload, 1) := by decide +kernel
theorem d_X12_takeOver_166 : decode prog_14_method_38_code 166 = .ok (.iastore, 1) := by decide +kernel
theorem d_X12_takeOver_167 : decode prog_14_method_38_code 167 = .ok (.aload_n 0, 1) := by decide +kernel
theorem d_X12_takeOver_168 : decode prog_14_method_38_code 168 = .ok (.getfield 34, 3) := by decide +kernel
theorem d_X12_takeOver_171 : decode prog_14_method_38_code 171 = .ok (.iconst 2, 1) := by decide +kernel
theorem d_X12_takeOver_172 : decode prog_14_method_38_code 172 = .ok (.iload_n 1, 1) := by decide +kernel
theorem d_X12_takeOver_173 : decode prog_14_method_38_code 173 = .ok (.imul, 1) := by decide +kernel
theorem d_X12_takeOver_174 : decode prog_14_method_38_code 174 = .ok (.iconst 1, 1) := by decide +kernel
theorem d_X12_takeOver_175 : decode prog_14_method_38_code 175 = .ok (.iadd, 1) := by decide +kernel
theorem d_X12_takeOver_176 : decode prog_14_method_38_code 176 = .ok (.aload_n 0, 1) := by decide +kernel
theorem d_X12_takeOver_177 : decode prog_14_method_38_code 177 = .ok (.getfield 83, 3) := by decide +kernel
theorem d_X12_takeOver_180 : decode prog_14_method_38_code 180 = .ok (.iconst 2, 1) := by decide +kernel
theorem d_X12_takeOver_181 : decode prog_14_method_38_code 181 = .ok (.iload_n 1, 1) := by decide +kernel
theorem d_X12_takeOver_182 : decode prog_14_method_38_code 182 = .ok (.imul, 1) := by decide +kernel
theorem d_X12_takeOver_183 : decode prog_14_method_38_code 183 = .ok (.iconst 1, 1) := by decide +kernel
theorem d_X12_takeOver_184 : decode prog_14_method_38_code 184 = .ok (.iadd, 1) := by decide +kernel
theorem d_X12_takeOver_185 : decode prog_14_method_38_code 185 = .ok (.iaload, 1) := by decide +kernel
theorem d_X12_takeOver_186 : decode prog_14_method_38_code 186 = .ok (.iastore, 1) := by decide +kernel
theorem d_X12_takeOver_187 : decode prog_14_method_38_code 187 = .ok (.iinc 1 1, 3) := by decide +kernel
theorem d_X12_takeOver_190 : decode prog_14_method_38_code 190 = .ok (.goto (-69), 3) := by decide +kernel
theorem d_X12_takeOver_193 : decode prog_14_method_38_code 193 = .ok (.iconst 0, 1) := by decide +kernel
theorem d_X12_takeOver_194 : decode prog_14_method_38_code 194 = .ok (.istore_n 1, 1) := by decide +kernel
theorem d_X12_takeOver_195 : decode prog_14_method_38_code 195 = .ok (.iload_n 1, 1) := by decide +kernel
theorem d_X12_takeOver_196 : decode prog_14_method_38_code 196 = .ok (.sipush 720, 3) := by decide +kernel
theorem d_X12_takeOver_199 : decode prog_14_method_38_code 199 = .ok (.if_icmp .ge 21, 3) := by decide +kernel
theorem d_X12_takeOver_202 : decode prog_14_method_38_code 202 = .ok (.aload_n 0, 1) := by decide +kernel
theorem d_X12_takeOver_203 : decode prog_14_method_38_code 203 = .ok (.getfield 40, 3) := by decide +kernel
theorem d_X12_takeOver_206 : decode prog_14_method_38_code 206 = .ok (.iload_n 1, 1) := by decide +kernel
theorem d_X12_takeOver_207 : decode prog_14_method_38_code 207 = .ok (.aload_n 0, 1) := by decide +kernel
theorem d_X12_takeOver_208 : decode prog_14_method_38_code 208 = .ok (.getfield 89, 3) := by decide +kernel
theorem d_X12_takeOver_211 : decode prog_14_method_38_code 211 = .ok (.iload_n 1, 1) := by decide +kernel
theorem d_X12_takeOver_212 : decode prog_14_method_38_code 212 = .ok (.iaload, 1) := by decide +kernel
theorem d_X12_takeOver_213 : decode prog_14_method_38_code 213 = .ok (.iastore, 1) := by decide +kernel
theorem d_X12_takeOver_214 : decode prog_14_method_38_code 214 = .ok (.iinc 1 1, 3) := by decide +kernel
theorem d_X12_takeOver_217 : decode prog_14_method_38_code 217 = .ok (.goto (-22), 3) := by decide +kernel
theorem d_X12_takeOver_220 : decode prog_14_method_38_code 220 = .ok (.iconst 0, 1) := by decide +kernel
theorem d_X12_takeOver_221 : decode prog_14_method_38_code 221 = .ok (.istore_n 1, 1) := by decide +kernel
theorem d_X12_takeOver_222 : decode prog_14_method_38_code 222 = .ok (.iload_n 1, 1) := by decide +kernel
theorem d_X12_takeOver_223 : decode prog_14_method_38_code 223 = .ok (.sipush 4200, 3) := by decide +kernel
theorem d_X12_takeOver_226 : decode prog_14_method_38_code 226 = .ok (.if_icmp .ge 21, 3) := by decide +kernel
theorem d_X12_takeOver_229 : decode prog_14_method_38_code 229 = .ok (.aload_n 0, 1) := by decide +kernel
theorem d_X12_takeOver_230 : decode prog_14_method_38_code 230 = .ok (.getfield 43, 3) := by decide +kernel
theorem d_X12_takeOver_233 : decode prog_14_method_38_code 233 = .ok (.iload_n 1, 1) := by decide +kernel
theorem d_X12_takeOver_234 : decode prog_14_method_38_code 234 = .ok (.aload_n 0, 1) := by decide +kernel
theorem d_X12_takeOver_235 : decode prog_14_method_38_code 235 = .ok (.getfield 92, 3) := by decide +kernel
theorem d_X12_takeOver_238 : decode prog_14_method_38_code 238 = .ok (.iload_n 1, 1) := by decide +kernel
theorem d_X12_takeOver_239 : decode prog_14_method_38_code 239 = .ok (.iaload, 1) := by decide +kernel
theorem d_X12_takeOver_240 : decode prog_14_method_38_code 240 = .ok (.iastore, 1) := by decide +kernel
theorem d_X12_takeOver_241 : decode prog_14_method_38_code 241 = .ok (.iinc 1 1, 3) := by decide +kernel
theorem d_X12_takeOver_244 : decode prog_14_method_38_code 244 = .ok (.goto (-22), 3) := by decide +kernel
theorem d_X12_takeOver_247 : decode prog_14_method_38_code 247 = .ok (.aload_n 0, 1) := by decide +kernel
theorem d_X12_takeOver_248 : decode prog_14_method_38_code 248 = .ok (.invokevirtual 179, 3) := by decide +kernel
theorem d_X12_takeOver_251 : decode prog_14_method_38_code 251 = .ok (.iconst 0, 1) := by decide +kernel
theorem d_X12_takeOver_252 : decode prog_14_method_38_code 252 = .ok (.istore_n 1, 1) := by decide +kernel
theorem d_X12_takeOver_253 : decode prog_14_method_38_code 253 = .ok (.iload_n 1, 1) := by decide +kernel
theorem d_X12_takeOver_254 : decode prog_14_method_38_code 254 = .ok (.aload_n 0, 1) := by decide +kernel
theorem d_X12_takeOver_255 : decode prog_14_method_38_code 255 = .ok (.getfield 327, 3) := by decide +kernel
theorem d_X12_takeOver_258 : decode prog_14_method_38_code 258 = .ok (.if_icmp .ge 21, 3) := by decide +kernel
theorem d_X12_takeOver_261 : decode prog_14_method_38_code 261 = .ok (.aload_n 0, 1) := by decide +kernel
theorem d_X12_takeOver_262 : decode prog_14_method_38_code 262 = .ok (.getfield 49, 3) := by decide +kernel
theorem d_X12_takeOver_265 : decode prog_14_method_38_code 265 = .ok (.iload_n 1, 1) := by decide +kernel
theorem d_X12_takeOver_266 : decode prog_14_method_38_code 266 = .ok (.aload_n 0, 1) := by decide +kernel
theorem d_X12_takeOver_267 : decode prog_14_method_38_code 267 = .ok (.getfield 128, 3) := by decide +kernel
theorem d_X12_takeOver_270 : decode prog_14_method_38_code 270 = .ok (.iload_n 1, 1) := by decide +kernel
theorem d_X12_takeOver_271 : decode prog_14_method_38_code 271 = .ok (.iaload, 1) := by decide +kernel
theorem d_X12_takeOver_272 : decode prog_14_method_38_code 272 = .ok (.iastore, 1) := by decide +kernel
theorem d_X12_takeOver_273 : decode prog_14_method_38_code 273 = .ok (.iinc 1 1, 3) := by decide +kernel
theorem d_X12_takeOver_276 : decode prog_14_method_38_code 276 = .ok (.goto (-23), 3) := by decide +kernel
theorem d_X12_takeOver_279 : decode prog_14_method_38_code 279 = .ok (.iconst 0, 1) := by decide +kernel
theorem d_X12_takeOver_280 : decode prog_14_method_38_code 280 = .ok (.istore_n 1, 1) := by decide +kernel
theorem d_X12_takeOver_281 : decode prog_14_method_38_code 281 = .ok (.iload_n 1, 1) := by decide +kernel
theorem d_X12_takeOver_282 : decode prog_14_method_38_code 282 = .ok (.iconst 5, 1) := by decide +kernel
theorem d_X12_takeOver_283 : decode prog_14_method_38_code 283 = .ok (.aload_n 0, 1) := by decide +kernel
theorem d_X12_takeOver_284 : decode prog_14_method_38_code 284 = .ok (.getfield 327, 3) := by decide +kernel
theorem d_X12_takeOver_287 : decode prog_14_method_38_code 287 = .ok (.imul, 1) := by decide +kernel
theorem d_X12_takeOver_288 : decode prog_14_method_38_code 288 = .ok (.if_icmp .ge 21, 3) := by decide +kernel
theorem d_X12_takeOver_291 : decode prog_14_method_38_code 291 = .ok (.aload_n 0, 1) := by decide +kernel
theorem d_X12_takeOver_292 : decode prog_14_method_38_code 292 = .ok (.getfield 52, 3) := by decide +kernel
theorem d_X12_takeOver_295 : decode prog_14_method_38_code 295 = .ok (.iload_n 1, 1) := by decide +kernel
theorem d_X12_takeOver_296 : decode prog_14_method_38_code 296 = .ok (.aload_n 0, 1) := by decide +kernel
theorem d_X12_takeOver_297 : decode prog_14_method_38_code 297 = .ok (.getfield 131, 3) := by decide +kernel
theorem d_X12_takeOver_300 : decode prog_14_method_38_code 300 = .ok (.iload_n 1, 1) := by decide +kernel
theorem d_X12_takeOver_301 : decode prog_14_method_38_code 301 = .ok (.iaload, 1) := by decide +kernel
theorem d_X12_takeOver_302 : decode prog_14_method_38_code 302 = .ok (.iastore, 1) := by decide +kernel
theorem d_X12_takeOver_303 : decode prog_14_method_38_code 303 = .ok (.iinc 1 1, 3) := by decide +kernel
theorem d_X12_takeOver_306 : decode prog_14_method_38_code 306 = .ok (.goto (-25), 3) := by decide +kernel
theorem d_X12_takeOver_309 : decode prog_14_method_38_code 309 = .ok (.aload_n 0, 1) := by decide +kernel
theorem d_X12_takeOver_310 : decode prog_14_method_38_code 310 = .ok (.aload_n 0, 1) := by decide +kernel
theorem d_X12_takeOver_311 : decode prog_14_method_38_code 311 = .ok (.getfield 324, 3) := by decide +kernel
theorem d_X12_takeOver_314 : decode prog_14_method_38_code 314 = .ok (.putfield 182, 3) := by decide +kernel
theorem d_X12_takeOver_317 : decode prog_14_method_38_code 317 = .ok (.iconst 0, 1) := by decide +kernel
theorem d_X12_takeOver_318 : decode prog_14_method_38_code 318 = .ok (.istore_n 1, 1) := by decide +kernel
theorem d_X12_takeOver_319 : decode prog_14_method_38_code 319 = .ok (.iload_n 1, 1) := by decide +kernel
theorem d_X12_takeOver_320 : decode prog_14_method_38_code 320 = .ok (.aload_n 0, 1) := by decide +kernel
theorem d_X12_takeOver_321 : decode prog_14_method_38_code 321 = .ok (.getfield 324, 3) := by decide +kernel
theorem d_X12_takeOver_324 : decode prog_14_method_38_code 324 = .ok (.if_icmp .ge 21, 3) := by decide +kernel
theorem d_X12_takeOver_327 : decode prog_14_method_38_code 327 = .ok (.aload_n 0, 1) := by decide +kernel
theorem d_X12_takeOver_328 : decode prog_14_method_38_code 328 = .ok (.getfield 55, 3) := by decide +kernel
theorem d_X12_takeOver_331 : decode prog_14_method_38_code 331 = .ok (.iload_n 1, 1) := by decide +kernel
theorem d_X12_takeOver_332 : decode prog_14_method_38_code 332 = .ok (.aload_n 0, 1) := by decide +kernel
theorem d_X12_takeOver_333 : decode prog_14_method_38_code 333 = .ok (.getfield 134, 3) := by decide +kernel
theorem d_X12_takeOver_336 : decode prog_14_method_38_code 336 = .ok (.iload_n 1, 1) := by decide +kernel
theorem d_X12_takeOver_337 : decode prog_14_method_38_code 337 = .ok (.iaload, 1) := by decide +kernel
theorem d_X12_takeOver_338 : decode prog_14_method_38_code 338 = .ok (.iastore, 1) := by decide +kernel
theorem d_X12_takeOver_339 : decode prog_14_method_38_code 339 = .ok (.iinc 1 1, 3) := by decide +kernel
theorem d_X12_takeOver_342 : decode prog_14_method_38_code 342 = .ok (.goto (-23), 3) := by decide +kernel
theorem d_X12_takeOver_345 : decode prog_14_method_38_code 345 = .ok (.aload_n 0, 1) := by decide +kernel
theorem d_X12_takeOver_346 : decode prog_14_method_38_code 346 = .ok (.aload_n 0, 1) := by decide +kernel
theorem d_X12_takeOver_347 : decode prog_14_method_38_code 347 = .ok (.getfield 330, 3) := by decide +kernel
theorem d_X12_takeOver_350 : decode prog_14_method_38_code 350 = .ok (.putfield 185, 3) := by decide +kernel
theorem d_X12_takeOver_353 : decode prog_14_method_38_code 353 = .ok (.aload_n 0, 1) := by decide +kernel
theorem d_X12_takeOver_354 : decode prog_14_method_38_code 354 = .ok (.iconst 0, 1) := by decide +kernel
theorem d_X12_takeOver_355 : decode prog_14_method_38_code 355 = .ok (.putfield 360, 3) := by decide +kernel
theorem d_X12_takeOver_358 : decode prog_14_method_38_code 358 = .ok (.aload_n 0, 1) := by decide +kernel
theorem d_X12_takeOver_359 : decode prog_14_method_38_code 359 = .ok (.aload_n 0, 1) := by decide +kernel
theorem d_X12_takeOver_360 : decode prog_14_method_38_code 360 = .ok (.getfield 327, 3) := by decide +kernel
theorem d_X12_takeOver_363 : decode prog_14_method_38_code 363 = .ok (.putfield 363, 3) := by decide +kernel
theorem d_X12_takeOver_366 : decode prog_14_method_38_code 366 = .ok (.aload_n 0, 1) := by decide +kernel
theorem d_X12_takeOver_367 : decode prog_14_method_38_code 367 = .ok (.iconst 0, 1) := by decide +kernel
theorem d_X12_takeOver_368 : decode prog_14_method_38_code 368 = .ok (.putfield 366, 3) := by decide +kernel
theorem d_X12_takeOver_371 : decode prog_14_method_38_code 371 = .ok (.aload_n 0, 1) := by decide +kernel
theorem d_X12_takeOver_372 : decode prog_14_method_38_code 372 = .ok (.iconst 0, 1) := by decide +kernel
theorem d_X12_takeOver_373 : decode prog_14_method_38_code 373 = .ok (.putfield 369, 3) := by decide +kernel
theorem d_X12_takeOver_376 : decode prog_14_method_38_code 376 = .ok (.iconst 0, 1) := by decide +kernel
theorem d_X12_takeOver_377 : decode prog_14_method_38_code 377 = .ok (.istore_n 1, 1) := by decide +kernel
theorem d_X12_takeOver_378 : decode prog_14_method_38_code 378 = .ok (.iload_n 1, 1) := by decide +kernel
theorem d_X12_takeOver_379 : decode prog_14_method_38_code 379 = .ok (.iconst 4, 1) := by decide +kernel
theorem d_X12_takeOver_380 : decode prog_14_method_38_code 380 = .ok (.if_icmp .ge 16, 3) := by decide +kernel
theorem d_X12_takeOver_383 : decode prog_14_method_38_code 383 = .ok (.aload_n 0, 1) := by decide +kernel
theorem d_X12_takeOver_384 : decode prog_14_method_38_code 384 = .ok (.getfield 158, 3) := by decide +kernel
theorem d_X12_takeOver_387 : decode prog_14_method_38_code 387 = .ok (.iload_n 1, 1) := by decide +kernel
theorem d_X12_takeOver_388 : decode prog_14_method_38_code 388 = .ok (.iconst (-1), 1) := by decide +kernel
theorem d_X12_takeOver_389 : decode prog_14_method_38_code 389 = .ok (.iastore, 1) := by decide +kernel
theorem d_X12_takeOver_390 : decode prog_14_method_38_code 390 = .ok (.iinc 1 1, 3) := by decide +kernel
theorem d_X12_takeOver_393 : decode prog_14_method_38_code 393 = .ok (.goto (-15), 3) := by decide +kernel
theorem d_X12_takeOver_396 : decode prog_14_method_38_code 396 = .ok (.return_, 1) := by decide +kernel
theorem d_X12_read_0 : decode prog_14_method_37_code 0 = .ok (.aload_n 0, 1) := by decide +kernel
theorem d_X12_read_1 : decode prog_14_method_37_code 1 = .ok (.iconst 0, 1) := by decide +kernel
theorem d_X12_read_2 : decode prog_14_method_37_code 2 = .ok (.putfield 248, 3) := by decide +kernel
theorem d_X12_read_5 : decode prog_14_method_37_code 5 = .ok (.aload_n 0, 1) := by decide +kernel
theorem d_X12_read_6 : decode prog_14_method_37_code 6 = .ok (.iconst 0, 1) := by decide +kernel
theorem d_X12_read_7 : decode prog_14_method_37_code 7 = .ok (.putfield 296, 3) := by decide +kernel
theorem d_X12_read_10 : decode prog_14_method_37_code 10 = .ok (.aload_n 0, 1) := by decide +kernel
theorem d_X12_read_11 : decode prog_14_method_37_code 11 = .ok (.iconst 0, 1) := by decide +kernel
theorem d_X12_read_12 : decode prog_14_method_37_code 12 = .ok (.putfield 320, 3) := by decide +kernel
theorem d_X12_read_15 : decode prog_14_method_37_code 15 = .ok (.aload_n 0, 1) := by decide +kernel
theorem d_X12_read_16 : decode prog_14_method_37_code 16 = .ok (.iconst 0, 1) := by decide +kernel
theorem d_X12_read_17 : decode prog_14_method_37_code 17 = .ok (.putfield 327, 3) := by decide +kernel
theorem d_X12_read_20 : decode prog_14_method_37_code 20 = .ok (.aload_n 0, 1) := by decide +kernel
theorem d_X12_read_21 : decode prog_14_method_37_code 21 = .ok (.iconst 0, 1) := by decide +kernel
theorem d_X12_read_22 : decode prog_14_method_37_code 22 = .ok (.putfield 324, 3) := by decide +kernel
theorem d_X12_read_25 : decode prog_14_method_37_code 25 = .ok (.aload_n 0, 1) := by decide +kernel
theorem d_X12_read_26 : decode prog_14_method_37_code 26 = .ok (.iconst 0, 1) := by decide +kernel
theorem d_X12_read_27 : decode prog_14_method_37_code 27 = .ok (.putfield 330, 3) := by decide +kernel
theorem d_X12_read_30 : decode prog_14_method_37_code 30 = .ok (.iconst 0, 1) := by decide +kernel
theorem d_X12_read_31 : decode prog_14_method_37_code 31 = .ok (.istore_n 1, 1) := by decide +kernel
theorem d_X12_read_32 : decode prog_14_method_37_code 32 = .ok (.iload_n 1, 1) := by decide +kernel
theorem d_X12_read_33 : decode prog_14_method_37_code 33 = .ok (.sipush 256, 3) := by decide +kernel
theorem d_X12_read_36 : decode prog_14_method_37_code 36 = .ok (.if_icmp .ge 16, 3) := by decide +kernel
theorem d_X12_read_39 : decode prog_14_method_37_code 39 = .ok (.aload_n 0, 1) := by decide +kernel
theorem d_X12_read_40 : decode prog_14_method_37_code 40 = .ok (.getfield 80, 3) := by decide +kernel
theorem d_X12_read_43 : decode prog_14_method_37_code 43 = .ok (.iload_n 1, 1) := by decide +kernel
theorem d_X12_read_44 : decode prog_14_method_37_code 44 = .ok (.iconst (-1), 1) := by decide +kernel
theorem d_X12_read_45 : decode prog_14_method_37_code 45 = .ok (.iastore, 1) := by decide +kernel
theorem d_X12_read_46 : decode prog_14_method_37_code 46 = .ok (.iinc 1 1, 3) := by decide +kernel
theorem d_X12_read_49 : decode prog_14_method_37_code 49 = .ok (.goto (-17), 3) := by decide +kernel
theorem d_X12_read_52 : decode prog_14_method_37_code 52 = .ok (.aload_n 0, 1) := by decide +kernel
theorem d_X12_read_53 : decode prog_14_method_37_code 53 = .ok (.iconst 0, 1) := by decide +kernel
theorem d_X12_read_54 : decode prog_14_method_37_code 54 = .ok (.putfield 195, 3) := by decide +kernel
theorem d_X12_read_57 : decode prog_14_method_37_code 57 = .ok (.aload_n 0, 1) := by decide +kernel
theorem d_X12_read_58 : decode prog_14_method_37_code 58 = .ok (.iconst (-1), 1) := by decide +kernel
theorem d_X12_read_59 : decode prog_14_method_37_code 59 = .ok (.putfield 13, 3) := by decide +kernel
theorem d_X12_read_62 : decode prog_14_method_37_code 62 = .ok (.aload_n 0, 1) := by decide +kernel
theorem d_X12_read_63 : decode prog_14_method_37_code 63 = .ok (.invokevirtual 348, 3) := by decide +kernel
theorem d_X12_read_66 : decode prog_14_method_37_code 66 = .ok (.istore_n 1, 1) := by decide +kernel
theorem d_X12_read_67 : decode prog_14_method_37_code 67 = .ok (.aload_n 0, 1) := by decide +kernel
theorem d_X12_read_68 : decode prog_14_method_37_code 68 = .ok (.iconst 0, 1) := by decide +kernel
theorem d_X12_read_69 : decode prog_14_method_37_code 69 = .ok (.putfield 188, 3) := by decide +kernel
theorem d_X12_read_72 : decode prog_14_method_37_code 72 = .ok (.iload_n 1, 1) := by decide +kernel
theorem d_X12_read_73 : decode prog_14_method_37_code 73 = .ok (.ifCond .ne 11, 3) := by decide +kernel
theorem d_X12_read_76 : decode prog_14_method_37_code 76 = .ok (.bipush (-10), 2) := by decide +kernel
theorem d_X12_read_78 : decode prog_14_method_37_code 78 = .ok (.aload_n 0, 1) := by decide +kernel
theorem d_X12_read_79 : decode prog_14_method_37_code 79 = .ok (.getfield 231, 3) := by decide +kernel
theorem d_X12_read_82 : decode prog_14_method_37_code 82 = .ok (.isub, 1) := by decide +kernel
theorem d_X12_read_83 : decode prog_14_method_37_code 83 = .ok (.ireturn, 1) := by decide +kernel
theorem d_X12_read_84 : decode prog_14_method_37_code 84 = .ok (.aload_n 0, 1) := by decide +kernel
theorem d_X12_read_85 : decode prog_14_method_37_code 85 = .ok (.invokevirtual 351, 3) := by decide +kernel
theorem d_X12_read_88 : decode prog_14_method_37_code 88 = .ok (.aload_n 0, 1) := by decide +kernel
theorem d_X12_read_89 : decode prog_14_method_37_code 89 = .ok (.getfield 327, 3) := by decide +kernel
theorem d_X12_read_92 : decode prog_14_method_37_code 92 = .ok (.ireturn, 1) := by decide +kernel
theorem d_X12_rule_0 : decode prog_14_method_50_code 0 = .ok (.iload_n 1, 1) := by decide +kernel
theorem d_X12_rule_1 : decode prog_14_method_50_code 1 = .ok (.i2l, 1) := by decide +kernel
theorem d_X12_rule_2 : decode prog_14_method_50_code 2 = .ok (.lconst 0, 1) := by decide +kernel
theorem d_X12_rule_3 : decode prog_14_method_50_code 3 = .ok (.aload_n 0, 1) := by decide +kernel
theorem d_X12_rule_4 : decode prog_14_method_50_code 4 = .ok (.getfield 354, 3) := by decide +kernel
theorem d_X12_rule_7 : decode prog_14_method_50_code 7 = .ok (.iconst 1, 1) := by decide +kernel
theorem d_X12_rule_8 : decode prog_14_method_50_code 8 = .ok (.isub, 1) := by decide +kernel
theorem d_X12_rule_9 : decode prog_14_method_50_code 9 = .ok (.i2l, 1) := by decide +kernel
theorem d_X12_rule_10 : decode prog_14_method_50_code 10 = .ok (.invokestatic 191, 3) := by decide +kernel
theorem d_X12_rule_13 : decode prog_14_method_50_code 13 = .ok (.ifCond .eq 19, 3) := by decide +kernel
theorem d_X12_rule_16 : decode prog_14_method_50_code 16 = .ok (.iload_n 2, 1) := by decide +kernel
theorem d_X12_rule_17 : decode prog_14_method_50_code 17 = .ok (.i2l, 1) := by decide +kernel
theorem d_X12_rule_18 : decode prog_14_method_50_code 18 = .ok (.lconst 0, 1) := by decide +kernel
theorem d_X12_rule_19 : decode prog_14_method_50_code 19 = .ok (.aload_n 0, 1) := by decide +kernel
theorem d_X12_rule_20 : decode prog_14_method_50_code 20 = .ok (.getfield 354, 3) := by decide +kernel
theorem d_X12_rule_23 : decode prog_14_method_50_code 23 = .ok (.iconst 1, 1) := by decide +kernel
theorem d_X12_rule_24 : decode prog_14_method_50_code 24 = .ok (.isub, 1) := by decide +kernel
theorem d_X12_rule_25 : decode prog_14_method_50_code 25 = .ok (.i2l, 1) := by decide +kernel
theorem d_X12_rule_26 : decode prog_14_method_50_code 26 = .ok (.invokestatic 191, 3) := by decide +kernel
theorem d_X12_rule_29 : decode prog_14_method_50_code 29 = .ok (.ifCond .ne 7, 3) := by decide +kernel
theorem d_X12_rule_32 : decode prog_14_method_50_code 32 = .ok (.sipush (-1001), 3) := by decide +kernel
theorem d_X12_rule_35 : decode prog_14_method_50_code 35 = .ok (.ireturn, 1) := by decide +kernel
theorem d_X12_rule_36 : decode prog_14_method_50_code 36 = .ok (.aload_n 0, 1) := by decide +kernel
theorem d_X12_rule_37 : decode prog_14_method_50_code 37 = .ok (.getfield 31, 3) := by decide +kernel
theorem d_X12_rule_40 : decode prog_14_method_50_code 40 = .ok (.bipush 16, 2) := by decide +kernel
theorem d_X12_rule_42 : decode prog_14_method_50_code 42 = .ok (.iload_n 1, 1) := by decide +kernel
theorem d_X12_rule_43 : decode prog_14_method_50_code 43 = .ok (.imul, 1) := by decide +kernel
theorem d_X12_rule_44 : decode prog_14_method_50_code 44 = .ok (.iload_n 2, 1) := by decide +kernel
theorem d_X12_rule_45 : decode prog_14_method_50_code 45 = .ok (.iadd, 1) := by decide +kernel
theorem d_X12_rule_46 : decode prog_14_method_50_code 46 = .ok (.iaload, 1) := by decide +kernel
theorem d_X12_rule_47 : decode prog_14_method_50_code 47 = .ok (.istore_n 3, 1) := by decide +kernel
theorem d_X12_rule_48 : decode prog_14_method_50_code 48 = .ok (.iload_n 3, 1) := by decide +kernel
theorem d_X12_rule_49 : decode prog_14_method_50_code 49 = .ok (.ifCond .ge 7, 3) := by decide +kernel
theorem d_X12_rule_52 : decode prog_14_method_50_code 52 = .ok (.iconst (-1), 1) := by decide +kernel
theorem d_X12_rule_53 : decode prog_14_method_50_code 53 = .ok (.goto 9, 3) := by decide +kernel
theorem d_X12_rule_56 : decode prog_14_method_50_code 56 = .ok (.aload_n 0, 1) := by decide +kernel
theorem d_X12_rule_57 : decode prog_14_method_50_code 57 = .ok (.getfield 37, 3) := by decide +kernel
theorem d_X12_rule_60 : decode prog_14_method_50_code 60 = .ok (.iload_n 3, 1) := by decide +kernel
theorem d_X12_rule_61 : decode prog_14_method_50_code 61 = .ok (.iaload, 1) := by decide +kernel
theorem d_X12_rule_62 : decode prog_14_method_50_code 62 = .ok (.ireturn, 1) := by decide +kernel
theorem d_X12_runRounds_0 : decode prog_14_method_64_code 0 = .ok (.iconst 0, 1) := by decide +kernel
theorem d_X12_runRounds_1 : decode prog_14_method_64_code 1 = .ok (.istore_n 2, 1) := by decide +kernel
theorem d_X12_runRounds_2 : decode prog_14_method_64_code 2 = .ok (.iconst 1, 1) := by decide +kernel
theorem d_X12_runRounds_3 : decode prog_14_method_64_code 3 = .ok (.istore_n 3, 1) := by decide +kernel
theorem d_X12_runRounds_4 : decode prog_14_method_64_code 4 = .ok (.iload_n 3, 1) := by decide +kernel
theorem d_X12_runRounds_5 : decode prog_14_method_64_code 5 = .ok (.ifCond .eq 155, 3) := by decide +kernel
theorem d_X12_runRounds_8 : decode prog_14_method_64_code 8 = .ok (.iload_n 2, 1) := by decide +kernel
theorem d_X12_runRounds_9 : decode prog_14_method_64_code 9 = .ok (.iload_n 1, 1) := by decide +kernel
theorem d_X12_runRounds_10 : decode prog_14_method_64_code 10 = .ok (.if_icmp .ge 150, 3) := by decide +kernel
theorem d_X12_runRounds_13 : decode prog_14_method_64_code 13 = .ok (.iconst 0, 1) := by decide +kernel
theorem d_X12_runRounds_14 : decode prog_14_method_64_code 14 = .ok (.istore 4, 2) := by decide +kernel
theorem d_X12_runRounds_16 : decode prog_14_method_64_code 16 = .ok (.iconst 0, 1) := by decide +kernel
theorem d_X12_runRounds_17 : decode prog_14_method_64_code 17 = .ok (.istore 5, 2) := by decide +kernel
theorem d_X12_runRounds_19 : decode prog_14_method_64_code 19 = .ok (.iload 5, 2) := by decide +kernel
theorem d_X12_runRounds_21 : decode prog_14_method_64_code 21 = .ok (.sipush 400, 3) := by decide +kernel
theorem d_X12_runRounds_24 : decode prog_14_method_64_code 24 = .ok (.if_icmp .ge 31, 3) := by decide +kernel
theorem d_X12_runRounds_27 : decode prog_14_method_64_code 27 = .ok (.aload_n 0, 1) := by decide +kernel
theorem d_X12_runRounds_28 : decode prog_14_method_64_code 28 = .ok (.iload 5, 2) := by decide +kernel
theorem d_X12_runRounds_30 : decode prog_14_method_64_code 30 = .ok (.iconst 1, 1) := by decide +kernel
theorem d_X12_runRounds_31 : decode prog_14_method_64_code 31 = .ok (.invokevirtual 381, 3) := by decide +kernel
theorem d_X12_runRounds_34 : decode prog_14_method_64_code 34 = .ok (.ifCond .eq 15, 3) := by decide +kernel
theorem d_X12_runRounds_37 : decode prog_14_method_64_code 37 = .ok (.aload_n 0, 1) := by decide +kernel
theorem d_X12_runRounds_38 : decode prog_14_method_64_code 38 = .ok (.getfield 146, 3) := by decide +kernel
theorem d_X12_runRounds_41 : decode prog_14_method_64_code 41 = .ok (.iload 4, 2) := by decide +kernel
theorem d_X12_runRounds_43 : decode prog_14_method_64_code 43 = .ok (.iload 5, 2) := by decide +kernel
theorem d_X12_runRounds_45 : decode prog_14_method_64_code 45 = .ok (.iastore, 1) := by decide +kernel
theorem d_X12_runRounds_46 : decode prog_14_method_64_code 46 = .ok (.iinc 4 1, 3) := by decide +kernel
theorem d_X12_runRounds_49 : decode prog_14_method_64_code 49 = .ok (.iinc 5 1, 3) := by decide +kernel
theorem d_X12_runRounds_52 : decode prog_14_method_64_code 52 = .ok (.goto (-33), 3) := by decide +kernel
theorem d_X12_runRounds_55 : decode prog_14_method_64_code 55 = .ok (.iload 4, 2) := by decide +kernel
theorem d_X12_runRounds_57 : decode prog_14_method_64_code 57 = .ok (.ifCond .le 7, 3) := by decide +kernel
theorem d_X12_runRounds_60 : decode prog_14_method_64_code 60 = .ok (.iconst 1, 1) := by decide +kernel
theorem d_X12_runRounds_61 : decode prog_14_method_64_code 61 = .ok (.goto 4, 3) := by decide +kernel
theorem d_X12_runRounds_64 : decode prog_14_method_64_code 64 = .ok (.iconst 0, 1) := by decide +kernel
theorem d_X12_runRounds_65 : decode prog_14_method_64_code 65 = .ok (.istore_n 3, 1) := by decide +kernel
theorem d_X12_runRounds_66 : decode prog_14_method_64_code 66 = .ok (.aload_n 0, 1) := by decide +kernel
theorem d_X12_runRounds_67 : decode prog_14_method_64_code 67 = .ok (.dup, 1) := by decide +kernel
theorem d_X12_runRounds_68 : decode prog_14_method_64_code 68 = .ok (.getfield 366, 3) := by decide +kernel
theorem d_X12_runRounds_71 : decode prog_14_method_64_code 71 = .ok (.iload_n 3, 1) := by decide +kernel
theorem d_X12_runRounds_72 : decode prog_14_method_64_code 72 = .ok (.ifCond .eq 7, 3) := by decide +kernel
theorem d_X12_runRounds_75 : decode prog_14_method_64_code 75 = .ok (.iconst 1, 1) := by decide +kernel
theorem d_X12_runRounds_76 : decode prog_14_method_64_code 76 = .ok (.goto 4, 3) := by decide +kernel
theorem d_X12_runRounds_79 : decode prog_14_method_64_code 79 = .ok (.iconst 0, 1) := by decide +kernel
theorem d_X12_runRounds_80 : decode prog_14_method_64_code 80 = .ok (.iadd, 1) := by decide +kernel
theorem d_X12_runRounds_81 : decode prog_14_method_64_code 81 = .ok (.putfield 366, 3) := by decide +kernel
theorem d_X12_runRounds_84 : decode prog_14_method_64_code 84 = .ok (.iconst 0, 1) := by decide +kernel
theorem d_X12_runRounds_85 : decode prog_14_method_64_code 85 = .ok (.istore 5, 2) := by decide +kernel
theorem d_X12_runRounds_87 : decode prog_14_method_64_code 87 = .ok (.iload 5, 2) := by decide +kernel
theorem d_X12_runRounds_89 : decode prog_14_method_64_code 89 = .ok (.iload 4, 2) := by decide +kernel
theorem d_X12_runRounds_91 : decode prog_14_method_64_code 91 = .ok (.if_icmp .ge 66, 3) := by decide +kernel
theorem d_X12_runRounds_94 : decode prog_14_method_64_code 94 = .ok (.iload_n 3, 1) := by decide +kernel
theorem d_X12_runRounds_95 : decode prog_14_method_64_code 95 = .ok (.ifCond .eq 62, 3) := by decide +kernel
theorem d_X12_runRounds_98 : decode prog_14_method_64_code 98 = .ok (.iload_n 2, 1) := by decide +kernel
theorem d_X12_runRounds_99 : decode prog_14_method_64_code 99 = .ok (.iload_n 1, 1) := by decide +kernel
theorem d_X12_runRounds_100 : decode prog_14_method_64_code 100 = .ok (.if_icmp .ge 57, 3) := by decide +kernel
theorem d_X12_runRounds_103 : decode prog_14_method_64_code 103 = .ok (.aload_n 0, 1) := by decide +kernel
theorem d_X12_runRounds_104 : decode prog_14_method_64_code 104 = .ok (.aload_n 0, 1) := by decide +kernel
theorem d_X12_runRounds_105 : decode prog_14_method_64_code 105 = .ok (.getfield 146, 3) := by decide +kernel
theorem d_X12_runRounds_108 : decode prog_14_method_64_code 108 = .ok (.iload 5, 2) := by decide +kernel
theorem d_X12_runRounds_110 : decode prog_14_method_64_code 110 = .ok (.iaload, 1) := by decide +kernel
theorem d_X12_runRounds_111 : decode prog_14_method_64_code 111 = .ok (.aload_n 0, 1) := by decide +kernel
theorem d_X12_runRounds_112 : decode prog_14_method_64_code 112 = .ok (.aload_n 0, 1) := by decide +kernel
theorem d_X12_runRounds_113 : decode prog_14_method_64_code 113 = .ok (.getfield 146, 3) := by decide +kernel
theorem d_X12_runRounds_116 : decode prog_14_method_64_code 116 = .ok (.iload 5, 2) := by decide +kernel
theorem d_X12_runRounds_118 : decode prog_14_method_64_code 118 = .ok (.iaload, 1) := by decide +kernel
theorem d_X12_runRounds_119 : decode prog_14_method_64_code 119 = .ok (.invokevirtual 374, 3) := by decide +kernel
theorem d_X12_runRounds_122 : decode prog_14_method_64_code 122 = .ok (.invokevirtual 427, 3) := by decide +kernel
theorem d_X12_runRounds_125 : decode prog_14_method_64_code 125 = .ok (.istore_n 3, 1) := by decide +kernel
theorem d_X12_runRounds_126 : decode prog_14_method_64_code 126 = .ok (.aload_n 0, 1) := by decide +kernel
theorem d_X12_runRounds_127 : decode prog_14_method_64_code 127 = .ok (.iload_n 3, 1) := by decide +kernel
theorem d_X12_runRounds_128 : decode prog_14_method_64_code 128 = .ok (.ifCond .eq 7, 3) := by decide +kernel
theorem d_X12_runRounds_131 : decode prog_14_method_64_code 131 = .ok (.iconst 0, 1) := by decide +kernel
theorem d_X12_runRounds_132 : decode prog_14_method_64_code 132 = .ok (.goto 4, 3) := by decide +kernel
theorem d_X12_runRounds_135 : decode prog_14_method_64_code 135 = .ok (.iconst 1, 1) := by decide +kernel
theorem d_X12_runRounds_136 : decode prog_14_method_64_code 136 = .ok (.putfield 398, 3) := by decide +kernel
theorem d_X12_runRounds_139 : decode prog_14_method_64_code 139 = .ok (.iload_n 2, 1) := by decide +kernel
theorem d_X12_runRounds_140 : decode prog_14_method_64_code 140 = .ok (.iload_n 3, 1) := by decide +kernel
theorem d_X12_runRounds_141 : decode prog_14_method_64_code 141 = .ok (.ifCond .eq 7, 3) := by decide +kernel
theorem d_X12_runRounds_144 : decode prog_14_method_64_code 144 = .ok (.iconst 1, 1) := by decide +kernel
theorem d_X12_runRounds_145 : decode prog_14_method_64_code 145 = .ok (.goto 4, 3) := by decide +kernel
theorem d_X12_runRounds_148 : decode prog_14_method_64_code 148 = .ok (.iconst 0, 1) := by decide +kernel
theorem d_X12_runRounds_149 : decode prog_14_method_64_code 149 = .ok (.iadd, 1) := by decide +kernel
theorem d_X12_runRounds_150 : decode prog_14_method_64_code 150 = .ok (.istore_n 2, 1) := by decide +kernel
theorem d_X12_runRounds_151 : decode prog_14_method_64_code 151 = .ok (.iinc 5 1, 3) := by decide +kernel
theorem d_X12_runRounds_154 : decode prog_14_method_64_code 154 = .ok (.goto (-67), 3) := by decide +kernel
theorem d_X12_runRounds_157 : decode prog_14_method_64_code 157 = .ok (.goto (-153), 3) := by decide +kernel
theorem d_X12_runRounds_160 : decode prog_14_method_64_code 160 = .ok (.iload_n 2, 1) := by decide +kernel
theorem d_X12_runRounds_161 : decode prog_14_method_64_code 161 = .ok (.ireturn, 1) := by decide +kernel
theorem d_X12_run_0 : decode prog_14_method_65_code 0 = .ok (.iload_n 1, 1) := by decide +kernel
theorem d_X12_run_1 : decode prog_14_method_65_code 1 = .ok (.i2l, 1) := by decide +kernel
theorem d_X12_run_2 : decode prog_14_method_65_code 2 = .ok (.lconst 0, 1) := by decide +kernel
theorem d_X12_run_3 : decode prog_14_method_65_code 3 = .ok (.ldc2_w 437, 3) := by decide +kernel
theorem d_X12_run_6 : decode prog_14_method_65_code 6 = .ok (.invokestatic 191, 3) := by decide +kernel
theorem d_X12_run_9 : decode prog_14_method_65_code 9 = .ok (.ifCond .eq 15, 3) := by decide +kernel
theorem d_X12_run_12 : decode prog_14_method_65_code 12 = .ok (.iload_n 2, 1) := by decide +kernel
theorem d_X12_run_13 : decode prog_14_method_65_code 13 = .ok (.i2l, 1) := by decide +kernel
theorem d_X12_run_14 : decode prog_14_method_65_code 14 = .ok (.lconst 0, 1) := by decide +kernel
theorem d_X12_run_15 : decode prog_14_method_65_code 15 = .ok (.ldc2_w 439, 3) := by decide +kernel
theorem d_X12_run_18 : decode prog_14_method_65_code 18 = .ok (.invokestatic 191, 3) := by decide +kernel
theorem d_X12_run_21 : decode prog_14_method_65_code 21 = .ok (.ifCond .ne 7, 3) := by decide +kernel
theorem d_X12_run_24 : decode prog_14_method_65_code 24 = .ok (.sipush (-1002), 3) := by decide +kernel
theorem d_X12_run_27 : decode prog_14_method_65_code 27 = .ok (.ireturn, 1) := by decide +kernel
theorem d_X12_run_28 : decode prog_14_method_65_code 28 = .ok (.aload_n 0, 1) := by decide +kernel
theorem d_X12_run_29 : decode prog_14_method_65_code 29 = .ok (.iconst 0, 1) := by decide +kernel
theorem d_X12_run_30 : decode prog_14_method_65_code 30 = .ok (.putfield 398, 3) := by decide +kernel
theorem d_X12_run_33 : decode prog_14_method_65_code 33 = .ok (.iload_n 1, 1) := by decide +kernel
theorem d_X12_run_34 : decode prog_14_method_65_code 34 = .ok (.iconst 2, 1) := by decide +kernel
theorem d_X12_run_35 : decode prog_14_method_65_code 35 = .ok (.if_icmp .ne 9, 3) := by decide +kernel
theorem d_X12_run_38 : decode prog_14_method_65_code 38 = .ok (.aload_n 0, 1) := by decide +kernel
theorem d_X12_run_39 : decode prog_14_method_65_code 39 = .ok (.iload_n 2, 1) := by decide +kernel
theorem d_X12_run_40 : decode prog_14_method_65_code 40 = .ok (.invokevirtual 441, 3) := by decide +kernel
theorem d_X12_run_43 : decode prog_14_method_65_code 43 = .ok (.ireturn, 1) := by decide +kernel
theorem d_X12_run_44 : decode prog_14_method_65_code 44 = .ok (.iconst 0, 1) := by decide +kernel
theorem d_X12_run_45 : decode prog_14_method_65_code 45 = .ok (.istore_n 3, 1) := by decide +kernel
theorem d_X12_run_46 : decode prog_14_method_65_code 46 = .ok (.iconst 1, 1) := by decide +kernel
theorem d_X12_run_47 : decode prog_14_method_65_code 47 = .ok (.istore 4, 2) := by decide +kernel
theorem d_X12_run_49 : decode prog_14_method_65_code 49 = .ok (.iload 4, 2) := by decide +kernel
theorem d_X12_run_51 : decode prog_14_method_65_code 51 = .ok (.ifCond .eq 77, 3) := by decide +kernel
theorem d_X12_run_54 : decode prog_14_method_65_code 54 = .ok (.iload_n 3, 1) := by decide +kernel
theorem d_X12_run_55 : decode prog_14_method_65_code 55 = .ok (.iload_n 2, 1) := by decide +kernel
theorem d_X12_run_56 : decode prog_14_method_65_code 56 = .ok (.if_icmp .ge 72, 3) := by decide +kernel
theorem d_X12_run_59 : decode prog_14_method_65_code 59 = .ok (.aload_n 0, 1) := by decide +kernel
theorem d_X12_run_60 : decode prog_14_method_65_code 60 = .ok (.iload_n 1, 1) := by decide +kernel
theorem d_X12_run_61 : decode prog_14_method_65_code 61 = .ok (.invokevirtual 444, 3) := by decide +kernel
theorem d_X12_run_64 : decode prog_14_method_65_code 64 = .ok (.istore 5, 2) := by decide +kernel
theorem d_X12_run_66 : decode prog_14_method_65_code 66 = .ok (.iload 5, 2) := by decide +kernel
theorem d_X12_run_68 : decode prog_14_method_65_code 68 = .ok (.ifCond .lt 22, 3) := by decide +kernel
theorem d_X12_run_71 : decode prog_14_method_65_code 71 = .ok (.aload_n 0, 1) := by decide +kernel
theorem d_X12_run_72 : decode prog_14_method_65_code 72 = .ok (.iload 5, 2) := by decide +kernel
theorem d_X12_run_74 : decode prog_14_method_65_code 74 = .ok (.aload_n 0, 1) := by decide +kernel
theorem d_X12_run_75 : decode prog_14_method_65_code 75 = .ok (.iload 5, 2) := by decide +kernel
theorem d_X12_run_77 : decode prog_14_method_65_code 77 = .ok (.invokevirtual 374, 3) := by decide +kernel
theorem d_X12_run_80 : decode prog_14_method_65_code 80 = .ok (.invokevirtual 427, 3) := by decide +kernel
theorem d_X12_run_83 : decode prog_14_method_65_code 83 = .ok (.ifCond .eq 7, 3) := by decide +kernel
theorem d_X12_run_86 : decode prog_14_method_65_code 86 = .ok (.iconst 1, 1) := by decide +kernel
theorem d_X12_run_87 : decode prog_14_method_65_code 87 = .ok (.goto 4, 3) := by decide +kernel
theorem d_X12_run_90 : decode prog_14_method_65_code 90 = .ok (.iconst 0, 1) := by decide +kernel
theorem d_X12_run_91 : decode prog_14_method_65_code 91 = .ok (.istore 4, 2) := by decide +kernel
theorem d_X12_run_93 : decode prog_14_method_65_code 93 = .ok (.aload_n 0, 1) := by decide +kernel
theorem d_X12_run_94 : decode prog_14_method_65_code 94 = .ok (.iload 5, 2) := by decide +kernel
theorem d_X12_run_96 : decode prog_14_method_65_code 96 = .ok (.ifCond .lt 12, 3) := by decide +kernel
theorem d_X12_run_99 : decode prog_14_method_65_code 99 = .ok (.iload 4, 2) := by decide +kernel
theorem d_X12_run_101 : decode prog_14_method_65_code 101 = .ok (.ifCond .ne 7, 3) := by decide +kernel
theorem d_X12_run_104 : decode prog_14_method_65_code 104 = .ok (.iconst 1, 1) := by decide +kernel
theorem d_X12_run_105 : decode prog_14_method_65_code 105 = .ok (.goto 4, 3) := by decide +kernel
theorem d_X12_run_108 : decode prog_14_method_65_code 108 = .ok (.iconst 0, 1) := by decide +kernel
theorem d_X12_run_109 : decode prog_14_method_65_code 109 = .ok (.putfield 398, 3) := by decide +kernel
theorem d_X12_run_112 : decode prog_14_method_65_code 112 = .ok (.iload_n 3, 1) := by decide +kernel
theorem d_X12_run_113 : decode prog_14_method_65_code 113 = .ok (.iload 4, 2) := by decide +kernel
theorem d_X12_run_115 : decode prog_14_method_65_code 115 = .ok (.ifCond .eq 7, 3) := by decide +kernel
theorem d_X12_run_118 : decode prog_14_method_65_code 118 = .ok (.iconst 1, 1) := by decide +kernel
theorem d_X12_run_119 : decode prog_14_method_65_code 119 = .ok (.goto 4, 3) := by decide +kernel
theorem d_X12_run_122 : decode prog_14_method_65_code 122 = .ok (.iconst 0, 1) := by decide +kernel
theorem d_X12_run_123 : decode prog_14_method_65_code 123 = .ok (.iadd, 1) := by decide +kernel
theorem d_X12_run_124 : decode prog_14_method_65_code 124 = .ok (.istore_n 3, 1) := by decide +kernel
theorem d_X12_run_125 : decode prog_14_method_65_code 125 = .ok (.goto (-76), 3) := by decide +kernel
theorem d_X12_run_128 : decode prog_14_method_65_code 128 = .ok (.iload_n 3, 1) := by decide +kernel
theorem d_X12_run_129 : decode prog_14_method_65_code 129 = .ok (.ireturn, 1) := by decide +kernel
theorem d_X12_step_0 : decode prog_14_method_62_code 0 = .ok (.aload_n 0, 1) := by decide +kernel
theorem d_X12_step_1 : decode prog_14_method_62_code 1 = .ok (.iload_n 1, 1) := by decide +kernel
theorem d_X12_step_2 : decode prog_14_method_62_code 2 = .ok (.invokevirtual 406, 3) := by decide +kernel
theorem d_X12_step_5 : decode prog_14_method_62_code 5 = .ok (.ifCond .ne 7, 3) := by decide +kernel
theorem d_X12_step_8 : decode prog_14_method_62_code 8 = .ok (.sipush (-1001), 3) := by decide +kernel
theorem d_X12_step_11 : decode prog_14_method_62_code 11 = .ok (.ireturn, 1) := by decide +kernel
theorem d_X12_step_12 : decode prog_14_method_62_code 12 = .ok (.aload_n 0, 1) := by decide +kernel
theorem d_X12_step_13 : decode prog_14_method_62_code 13 = .ok (.iload_n 1, 1) := by decide +kernel
theorem d_X12_step_14 : decode prog_14_method_62_code 14 = .ok (.invokevirtual 374, 3) := by decide +kernel
theorem d_X12_step_17 : decode prog_14_method_62_code 17 = .ok (.istore_n 2, 1) := by decide +kernel
theorem d_X12_step_18 : decode prog_14_method_62_code 18 = .ok (.iload_n 2, 1) := by decide +kernel
theorem d_X12_step_19 : decode prog_14_method_62_code 19 = .ok (.ifCond .lt 12, 3) := by decide +kernel
theorem d_X12_step_22 : decode prog_14_method_62_code 22 = .ok (.aload_n 0, 1) := by decide +kernel
theorem d_X12_step_23 : decode prog_14_method_62_code 23 = .ok (.iload_n 1, 1) := by decide +kernel
theorem d_X12_step_24 : decode prog_14_method_62_code 24 = .ok (.iload_n 2, 1) := by decide +kernel
theorem d_X12_step_25 : decode prog_14_method_62_code 25 = .ok (.invokevirtual 377, 3) := by decide +kernel
theorem d_X12_step_28 : decode prog_14_method_62_code 28 = .ok (.ifCond .ge 7, 3) := by decide +kernel
theorem d_X12_step_31 : decode prog_14_method_62_code 31 = .ok (.sipush (-1003), 3) := by decide +kernel
theorem d_X12_step_34 : decode prog_14_method_62_code 34 = .ok (.ireturn, 1) := by decide +kernel
theorem d_X12_step_35 : decode prog_14_method_62_code 35 = .ok (.aload_n 0, 1) := by decide +kernel
theorem d_X12_step_36 : decode prog_14_method_62_code 36 = .ok (.iload_n 1, 1) := by decide +kernel
theorem d_X12_step_37 : decode prog_14_method_62_code 37 = .ok (.iload_n 2, 1) := by decide +kernel
theorem d_X12_step_38 : decode prog_14_method_62_code 38 = .ok (.invokevirtual 427, 3) := by decide +kernel
theorem d_X12_step_41 : decode prog_14_method_62_code 41 = .ok (.ifCond .eq 7, 3) := by decide +kernel
theorem d_X12_step_44 : decode prog_14_method_62_code 44 = .ok (.iconst 1, 1) := by decide +kernel
theorem d_X12_step_45 : decode prog_14_method_62_code 45 = .ok (.goto 4, 3) := by decide +kernel
theorem d_X12_step_48 : decode prog_14_method_62_code 48 = .ok (.iconst 0, 1) := by decide +kernel
theorem d_X12_step_49 : decode prog_14_method_62_code 49 = .ok (.ireturn, 1) := by decide +kernel
theorem d_X12_trace_0 : decode prog_14_method_67_code 0 = .ok (.iload_n 1, 1) := by decide +kernel
theorem d_X12_trace_1 : decode prog_14_method_67_code 1 = .ok (.i2l, 1) := by decide +kernel
theorem d_X12_trace_2 : decode prog_14_method_67_code 2 = .ok (.lconst 0, 1) := by decide +kernel
theorem d_X12_trace_3 : decode prog_14_method_67_code 3 = .ok (.aload_n 0, 1) := by decide +kernel
theorem d_X12_trace_4 : decode prog_14_method_67_code 4 = .ok (.getfield 369, 3) := by decide +kernel
theorem d_X12_trace_7 : decode prog_14_method_67_code 7 = .ok (.bipush 50, 2) := by decide +kernel
theorem d_X12_trace_9 : decode prog_14_method_67_code 9 = .ok (.if_icmp .ge 10, 3) := by decide +kernel
theorem d_X12_trace_12 : decode prog_14_method_67_code 12 = .ok (.aload_n 0, 1) := by decide +kernel
theorem d_X12_trace_13 : decode prog_14_method_67_code 13 = .ok (.getfield 369, 3) := by decide +kernel
theorem d_X12_trace_16 : decode prog_14_method_67_code 16 = .ok (.goto 5, 3) := by decide +kernel
theorem d_X12_trace_19 : decode prog_14_method_67_code 19 = .ok (.bipush 50, 2) := by decide +kernel
theorem d_X12_trace_21 : decode prog_14_method_67_code 21 = .ok (.iconst 1, 1) := by decide +kernel
theorem d_X12_trace_22 : decode prog_14_method_67_code 22 = .ok (.isub, 1) := by decide +kernel
theorem d_X12_trace_23 : decode prog_14_method_67_code 23 = .ok (.i2l, 1) := by decide +kernel
theorem d_X12_trace_24 : decode prog_14_method_67_code 24 = .ok (.invokestatic 191, 3) := by decide +kernel
theorem d_X12_trace_27 : decode prog_14_method_67_code 27 = .ok (.ifCond .eq 22, 3) := by decide +kernel
theorem d_X12_trace_30 : decode prog_14_method_67_code 30 = .ok (.aload_n 0, 1) := by decide +kernel
theorem d_X12_trace_31 : decode prog_14_method_67_code 31 = .ok (.getfield 62, 3) := by decide +kernel
theorem d_X12_trace_34 : decode prog_14_method_67_code 34 = .ok (.aload_n 0, 1) := by decide +kernel
theorem d_X12_trace_35 : decode prog_14_method_67_code 35 = .ok (.getfield 369, 3) := by decide +kernel
theorem d_X12_trace_38 : decode prog_14_method_67_code 38 = .ok (.iconst 1, 1) := by decide +kernel
theorem d_X12_trace_39 : decode prog_14_method_67_code 39 = .ok (.isub, 1) := by decide +kernel
theorem d_X12_trace_40 : decode prog_14_method_67_code 40 = .ok (.iload_n 1, 1) := by decide +kernel
theorem d_X12_trace_41 : decode prog_14_method_67_code 41 = .ok (.isub, 1) := by decide +kernel
theorem d_X12_trace_42 : decode prog_14_method_67_code 42 = .ok (.bipush 50, 2) := by decide +kernel
theorem d_X12_trace_44 : decode prog_14_method_67_code 44 = .ok (.irem, 1) := by decide +kernel
theorem d_X12_trace_45 : decode prog_14_method_67_code 45 = .ok (.iaload, 1) := by decide +kernel
theorem d_X12_trace_46 : decode prog_14_method_67_code 46 = .ok (.goto 4, 3) := by decide +kernel
theorem d_X12_trace_49 : decode prog_14_method_67_code 49 = .ok (.iconst (-1), 1) := by decide +kernel
theorem d_X12_trace_50 : decode prog_14_method_67_code 50 = .ok (.ireturn, 1) := by decide +kernel
theorem d_X12_wired_0 : decode prog_14_method_53_code 0 = .ok (.aload_n 0, 1) := by decide +kernel
theorem d_X12_wired_1 : decode prog_14_method_53_code 1 = .ok (.iload_n 1, 1) := by decide +kernel
theorem d_X12_wired_2 : decode prog_14_method_53_code 2 = .ok (.invokevirtual 406, 3) := by decide +kernel
theorem d_X12_wired_5 : decode prog_14_method_53_code 5 = .ok (.ifCond .ne 7, 3) := by decide +kernel
theorem d_X12_wired_8 : decode prog_14_method_53_code 8 = .ok (.sipush (-1001), 3) := by decide +kernel
theorem d_X12_wired_11 : decode prog_14_method_53_code 11 = .ok (.ireturn, 1) := by decide +kernel
theorem d_X12_wired_12 : decode prog_14_method_53_code 12 = .ok (.iload_n 2, 1) := by decide +kernel
theorem d_X12_wired_13 : decode prog_14_method_53_code 13 = .ok (.i2l, 1) := by decide +kernel
theorem d_X12_wired_14 : decode prog_14_method_53_code 14 = .ok (.lconst 0, 1) := by decide +kernel
theorem d_X12_wired_15 : decode prog_14_method_53_code 15 = .ok (.aload_n 0, 1) := by decide +kernel
theorem d_X12_wired_16 : decode prog_14_method_53_code 16 = .ok (.getfield 21, 3) := by decide +kernel
theorem d_X12_wired_19 : decode prog_14_method_53_code 19 = .ok (.aload_n 0, 1) := by decide +kernel
theorem d_X12_wired_20 : decode prog_14_method_53_code 20 = .ok (.getfield 49, 3) := by decide +kernel
theorem d_X12_wired_23 : decode prog_14_method_53_code 23 = .ok (.iload_n 1, 1) := by decide +kernel
theorem d_X12_wired_24 : decode prog_14_method_53_code 24 = .ok (.iaload, 1) := by decide +kernel
theorem d_X12_wired_25 : decode prog_14_method_53_code 25 = .ok (.iaload, 1) := by decide +kernel
theorem d_X12_wired_26 : decode prog_14_method_53_code 26 = .ok (.iconst 1, 1) := by decide +kernel
theorem d_X12_wired_27 : decode prog_14_method_53_code 27 = .ok (.isub, 1) := by decide +kernel
theorem d_X12_wired_28 : decode prog_14_method_53_code 28 = .ok (.i2l, 1) := by decide +kernel
theorem d_X12_wired_29 : decode prog_14_method_53_code 29 = .ok (.invokestatic 191, 3) := by decide +kernel
theorem d_X12_wired_32 : decode prog_14_method_53_code 32 = .ok (.ifCond .eq 19, 3) := by decide +kernel
theorem d_X12_wired_35 : decode prog_14_method_53_code 35 = .ok (.aload_n 0, 1) := by decide +kernel
theorem d_X12_wired_36 : decode prog_14_method_53_code 36 = .ok (.getfield 52, 3) := by decide +kernel
theorem d_X12_wired_39 : decode prog_14_method_53_code 39 = .ok (.iconst 5, 1) := by decide +kernel
theorem d_X12_wired_40 : decode prog_14_method_53_code 40 = .ok (.iload_n 1, 1) := by decide +kernel
theorem d_X12_wired_41 : decode prog_14_method_53_code 41 = .ok (.imul, 1) := by decide +kernel
theorem d_X12_wired_42 : decode prog_14_method_53_code 42 = .ok (.iload_n 2, 1) := by decide +kernel
theorem d_X12_wired_43 : decode prog_14_method_53_code 43 = .ok (.iadd, 1) := by decide +kernel
theorem d_X12_wired_44 : decode prog_14_method_53_code 44 = .ok (.iaload, 1) := by decide +kernel
theorem d_X12_wired_45 : decode prog_14_method_53_code 45 = .ok (.invokestatic 409, 3) := by decide +kernel
theorem d_X12_wired_48 : decode prog_14_method_53_code 48 = .ok (.goto 6, 3) := by decide +kernel
theorem d_X12_wired_51 : decode prog_14_method_53_code 51 = .ok (.sipush (-1002), 3) := by decide +kernel
theorem d_X12_wired_54 : decode prog_14_method_53_code 54 = .ok (.ireturn, 1) := by decide +kernel
theorem d_X11_read_0 : decode prog_1_method_4_code 0 = .ok (.aload_n 0, 1) := by decide +kernel
theorem d_X11_read_1 : decode prog_1_method_4_code 1 = .ok (.getfield 12, 3) := by decide +kernel
theorem d_X11_read_4 : decode prog_1_method_4_code 4 = .ok (.invokevirtual 87, 3) := by decide +kernel
theorem d_X11_read_7 : decode prog_1_method_4_code 7 = .ok (.istore_n 1, 1) := by decide +kernel
theorem d_X11_read_8 : decode prog_1_method_4_code 8 = .ok (.iload_n 1, 1) := by decide +kernel
theorem d_X11_read_9 : decode prog_1_method_4_code 9 = .ok (.ifCond .eq 8, 3) := by decide +kernel
theorem d_X11_read_12 : decode prog_1_method_4_code 12 = .ok (.bipush (-10), 2) := by decide +kernel
theorem d_X11_read_14 : decode prog_1_method_4_code 14 = .ok (.iload_n 1, 1) := by decide +kernel
theorem d_X11_read_15 : decode prog_1_method_4_code 15 = .ok (.isub, 1) := by decide +kernel
theorem d_X11_read_16 : decode prog_1_method_4_code 16 = .ok (.ireturn, 1) := by decide +kernel
theorem d_X11_read_17 : decode prog_1_method_4_code 17 = .ok (.aload_n 0, 1) := by decide +kernel
theorem d_X11_read_18 : decode prog_1_method_4_code 18 = .ok (.getfield 61, 3) := by decide +kernel
theorem d_X11_read_21 : decode prog_1_method_4_code 21 = .ok (.astore_n 2, 1) := by decide +kernel
theorem d_X11_read_22 : decode prog_1_method_4_code 22 = .ok (.aload_n 0, 1) := by decide +kernel
theorem d_X11_read_23 : decode prog_1_method_4_code 23 = .ok (.aload_n 0, 1) := by decide +kernel
theorem d_X11_read_24 : decode prog_1_method_4_code 24 = .ok (.getfield 12, 3) := by decide +kernel
theorem d_X11_read_27 : decode prog_1_method_4_code 27 = .ok (.getfield 91, 3) := by decide +kernel
theorem d_X11_read_30 : decode prog_1_method_4_code 30 = .ok (.putfield 61, 3) := by decide +kernel
theorem d_X11_read_33 : decode prog_1_method_4_code 33 = .ok (.aload_n 0, 1) := by decide +kernel
theorem d_X11_read_34 : decode prog_1_method_4_code 34 = .ok (.getfield 12, 3) := by decide +kernel
theorem d_X11_read_37 : decode prog_1_method_4_code 37 = .ok (.aload_n 2, 1) := by decide +kernel
theorem d_X11_read_38 : decode prog_1_method_4_code 38 = .ok (.putfield 91, 3) := by decide +kernel
theorem d_X11_read_41 : decode prog_1_method_4_code 41 = .ok (.aload_n 0, 1) := by decide +kernel
theorem d_X11_read_42 : decode prog_1_method_4_code 42 = .ok (.getfield 26, 3) := by decide +kernel
theorem d_X11_read_45 : decode prog_1_method_4_code 45 = .ok (.aload_n 0, 1) := by decide +kernel
theorem d_X11_read_46 : decode prog_1_method_4_code 46 = .ok (.getfield 61, 3) := by decide +kernel
theorem d_X11_read_49 : decode prog_1_method_4_code 49 = .ok (.getfield 92, 3) := by decide +kernel
theorem d_X11_read_52 : decode prog_1_method_4_code 52 = .ok (.getfield 96, 3) := by decide +kernel
theorem d_X11_read_55 : decode prog_1_method_4_code 55 = .ok (.invokevirtual 99, 3) := by decide +kernel
theorem d_X11_read_58 : decode prog_1_method_4_code 58 = .ok (.aload_n 0, 1) := by decide +kernel
theorem d_X11_read_59 : decode prog_1_method_4_code 59 = .ok (.invokevirtual 102, 3) := by decide +kernel
theorem d_X11_read_62 : decode prog_1_method_4_code 62 = .ok (.aload_n 0, 1) := by decide +kernel
theorem d_X11_read_63 : decode prog_1_method_4_code 63 = .ok (.getfield 61, 3) := by decide +kernel
theorem d_X11_read_66 : decode prog_1_method_4_code 66 = .ok (.getfield 92, 3) := by decide +kernel
theorem d_X11_read_69 : decode prog_1_method_4_code 69 = .ok (.getfield 96, 3) := by decide +kernel
theorem d_X11_read_72 : decode prog_1_method_4_code 72 = .ok (.ireturn, 1) := by decide +kernel
