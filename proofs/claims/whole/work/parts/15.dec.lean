theorem d_X12_needs_5 : decode prog_14_method_16_code 5 = .ok (.ifCond .ne 8, 3) := by decide +kernel
theorem d_X12_needs_8 : decode prog_14_method_16_code 8 = .ok (.aload_n 0, 1) := by decide +kernel
theorem d_X12_needs_9 : decode prog_14_method_16_code 9 = .ok (.invokevirtual 241, 3) := by decide +kernel
theorem d_X12_needs_12 : decode prog_14_method_16_code 12 = .ok (.ireturn, 1) := by decide +kernel
theorem d_X12_needs_13 : decode prog_14_method_16_code 13 = .ok (.aload_n 0, 1) := by decide +kernel
theorem d_X12_needs_14 : decode prog_14_method_16_code 14 = .ok (.invokevirtual 245, 3) := by decide +kernel
theorem d_X12_needs_17 : decode prog_14_method_16_code 17 = .ok (.iconst 1, 1) := by decide +kernel
theorem d_X12_needs_18 : decode prog_14_method_16_code 18 = .ok (.ireturn, 1) := by decide +kernel
theorem d_X12_out_0 : decode prog_14_method_83_code 0 = .ok (.iload_n 1, 1) := by decide +kernel
theorem d_X12_out_1 : decode prog_14_method_83_code 1 = .ok (.i2l, 1) := by decide +kernel
theorem d_X12_out_2 : decode prog_14_method_83_code 2 = .ok (.lconst 0, 1) := by decide +kernel
theorem d_X12_out_3 : decode prog_14_method_83_code 3 = .ok (.aload_n 0, 1) := by decide +kernel
theorem d_X12_out_4 : decode prog_14_method_83_code 4 = .ok (.getfield 401, 3) := by decide +kernel
theorem d_X12_out_7 : decode prog_14_method_83_code 7 = .ok (.iconst 1, 1) := by decide +kernel
theorem d_X12_out_8 : decode prog_14_method_83_code 8 = .ok (.isub, 1) := by decide +kernel
theorem d_X12_out_9 : decode prog_14_method_83_code 9 = .ok (.i2l, 1) := by decide +kernel
theorem d_X12_out_10 : decode prog_14_method_83_code 10 = .ok (.invokestatic 191, 3) := by decide +kernel
theorem d_X12_out_13 : decode prog_14_method_83_code 13 = .ok (.ifCond .eq 12, 3) := by decide +kernel
theorem d_X12_out_16 : decode prog_14_method_83_code 16 = .ok (.aload_n 0, 1) := by decide +kernel
theorem d_X12_out_17 : decode prog_14_method_83_code 17 = .ok (.getfield 65, 3) := by decide +kernel
theorem d_X12_out_20 : decode prog_14_method_83_code 20 = .ok (.iload_n 1, 1) := by decide +kernel
theorem d_X12_out_21 : decode prog_14_method_83_code 21 = .ok (.iaload, 1) := by decide +kernel
theorem d_X12_out_22 : decode prog_14_method_83_code 22 = .ok (.goto 4, 3) := by decide +kernel
theorem d_X12_out_25 : decode prog_14_method_83_code 25 = .ok (.iconst (-1), 1) := by decide +kernel
theorem d_X12_out_26 : decode prog_14_method_83_code 26 = .ok (.ireturn, 1) := by decide +kernel
theorem d_X12_place_0 : decode prog_14_method_39_code 0 = .ok (.aload_n 0, 1) := by decide +kernel
theorem d_X12_place_1 : decode prog_14_method_39_code 1 = .ok (.getfield 13, 3) := by decide +kernel
theorem d_X12_place_4 : decode prog_14_method_39_code 4 = .ok (.ireturn, 1) := by decide +kernel
theorem d_X12_put_0 : decode prog_14_method_80_code 0 = .ok (.aload_n 0, 1) := by decide +kernel
theorem d_X12_put_1 : decode prog_14_method_80_code 1 = .ok (.getfield 401, 3) := by decide +kernel
theorem d_X12_put_4 : decode prog_14_method_80_code 4 = .ok (.sipush 4000, 3) := by decide +kernel
theorem d_X12_put_7 : decode prog_14_method_80_code 7 = .ok (.if_icmp .ge 23, 3) := by decide +kernel
theorem d_X12_put_10 : decode prog_14_method_80_code 10 = .ok (.aload_n 0, 1) := by decide +kernel
theorem d_X12_put_11 : decode prog_14_method_80_code 11 = .ok (.getfield 65, 3) := by decide +kernel
theorem d_X12_put_14 : decode prog_14_method_80_code 14 = .ok (.aload_n 0, 1) := by decide +kernel
theorem d_X12_put_15 : decode prog_14_method_80_code 15 = .ok (.getfield 401, 3) := by decide +kernel
theorem d_X12_put_18 : decode prog_14_method_80_code 18 = .ok (.iload_n 1, 1) := by decide +kernel
theorem d_X12_put_19 : decode prog_14_method_80_code 19 = .ok (.iastore, 1) := by decide +kernel
theorem d_X12_put_20 : decode prog_14_method_80_code 20 = .ok (.aload_n 0, 1) := by decide +kernel
theorem d_X12_put_21 : decode prog_14_method_80_code 21 = .ok (.dup, 1) := by decide +kernel
theorem d_X12_put_22 : decode prog_14_method_80_code 22 = .ok (.getfield 401, 3) := by decide +kernel
theorem d_X12_put_25 : decode prog_14_method_80_code 25 = .ok (.iconst 1, 1) := by decide +kernel
theorem d_X12_put_26 : decode prog_14_method_80_code 26 = .ok (.iadd, 1) := by decide +kernel
theorem d_X12_put_27 : decode prog_14_method_80_code 27 = .ok (.putfield 401, 3) := by decide +kernel
theorem d_X12_put_30 : decode prog_14_method_80_code 30 = .ok (.return_, 1) := by decide +kernel
theorem d_X12_putName_0 : decode prog_14_method_81_code 0 = .ok (.bipush 56, 2) := by decide +kernel
theorem d_X12_putName_2 : decode prog_14_method_81_code 2 = .ok (.istore_n 3, 1) := by decide +kernel
theorem d_X12_putName_3 : decode prog_14_method_81_code 3 = .ok (.iload_n 3, 1) := by decide +kernel
theorem d_X12_putName_4 : decode prog_14_method_81_code 4 = .ok (.ifCond .lt 30, 3) := by decide +kernel
theorem d_X12_putName_7 : decode prog_14_method_81_code 7 = .ok (.lload_n 1, 1) := by decide +kernel
theorem d_X12_putName_8 : decode prog_14_method_81_code 8 = .ok (.iload_n 3, 1) := by decide +kernel
theorem d_X12_putName_9 : decode prog_14_method_81_code 9 = .ok (.lshr, 1) := by decide +kernel
theorem d_X12_putName_10 : decode prog_14_method_81_code 10 = .ok (.ldc2_w 472, 3) := by decide +kernel
theorem d_X12_putName_13 : decode prog_14_method_81_code 13 = .ok (.land, 1) := by decide +kernel
theorem d_X12_putName_14 : decode prog_14_method_81_code 14 = .ok (.l2i, 1) := by decide +kernel
theorem d_X12_putName_15 : decode prog_14_method_81_code 15 = .ok (.istore 4, 2) := by decide +kernel
theorem d_X12_putName_17 : decode prog_14_method_81_code 17 = .ok (.iload 4, 2) := by decide +kernel
theorem d_X12_putName_19 : decode prog_14_method_81_code 19 = .ok (.ifCond .le 9, 3) := by decide +kernel
theorem d_X12_putName_22 : decode prog_14_method_81_code 22 = .ok (.aload_n 0, 1) := by decide +kernel
theorem d_X12_putName_23 : decode prog_14_method_81_code 23 = .ok (.iload 4, 2) := by decide +kernel
theorem d_X12_putName_25 : decode prog_14_method_81_code 25 = .ok (.invokevirtual 474, 3) := by decide +kernel
theorem d_X12_putName_28 : decode prog_14_method_81_code 28 = .ok (.iinc 3 (-8), 3) := by decide +kernel
theorem d_X12_putName_31 : decode prog_14_method_81_code 31 = .ok (.goto (-28), 3) := by decide +kernel
theorem d_X12_putName_34 : decode prog_14_method_81_code 34 = .ok (.return_, 1) := by decide +kernel
theorem d_X12_print_0 : decode prog_14_method_82_code 0 = .ok (.iload_n 1, 1) := by decide +kernel
theorem d_X12_print_1 : decode prog_14_method_82_code 1 = .ok (.i2l, 1) := by decide +kernel
theorem d_X12_print_2 : decode prog_14_method_82_code 2 = .ok (.lconst 0, 1) := by decide +kernel
theorem d_X12_print_3 : decode prog_14_method_82_code 3 = .ok (.aload_n 0, 1) := by decide +kernel
theorem d_X12_print_4 : decode prog_14_method_82_code 4 = .ok (.getfield 182, 3) := by decide +kernel
theorem d_X12_print_7 : decode prog_14_method_82_code 7 = .ok (.iconst 1, 1) := by decide +kernel
theorem d_X12_print_8 : decode prog_14_method_82_code 8 = .ok (.isub, 1) := by decide +kernel
theorem d_X12_print_9 : decode prog_14_method_82_code 9 = .ok (.i2l, 1) := by decide +kernel
theorem d_X12_print_10 : decode prog_14_method_82_code 10 = .ok (.invokestatic 191, 3) := by decide +kernel
theorem d_X12_print_13 : decode prog_14_method_82_code 13 = .ok (.ifCond .ne 7, 3) := by decide +kernel
theorem d_X12_print_16 : decode prog_14_method_82_code 16 = .ok (.sipush (-1001), 3) := by decide +kernel
theorem d_X12_print_19 : decode prog_14_method_82_code 19 = .ok (.ireturn, 1) := by decide +kernel
theorem d_X12_print_20 : decode prog_14_method_82_code 20 = .ok (.aload_n 0, 1) := by decide +kernel
theorem d_X12_print_21 : decode prog_14_method_82_code 21 = .ok (.iconst 0, 1) := by decide +kernel
theorem d_X12_print_22 : decode prog_14_method_82_code 22 = .ok (.putfield 401, 3) := by decide +kernel
theorem d_X12_print_25 : decode prog_14_method_82_code 25 = .ok (.iconst 0, 1) := by decide +kernel
theorem d_X12_print_26 : decode prog_14_method_82_code 26 = .ok (.istore_n 2, 1) := by decide +kernel
theorem d_X12_print_27 : decode prog_14_method_82_code 27 = .ok (.aload_n 0, 1) := by decide +kernel
theorem d_X12_print_28 : decode prog_14_method_82_code 28 = .ok (.getfield 55, 3) := by decide +kernel
theorem d_X12_print_31 : decode prog_14_method_82_code 31 = .ok (.iload_n 1, 1) := by decide +kernel
theorem d_X12_print_32 : decode prog_14_method_82_code 32 = .ok (.iaload, 1) := by decide +kernel
theorem d_X12_print_33 : decode prog_14_method_82_code 33 = .ok (.istore_n 3, 1) := by decide +kernel
theorem d_X12_print_34 : decode prog_14_method_82_code 34 = .ok (.iconst 1, 1) := by decide +kernel
theorem d_X12_print_35 : decode prog_14_method_82_code 35 = .ok (.istore 4, 2) := by decide +kernel
theorem d_X12_print_37 : decode prog_14_method_82_code 37 = .ok (.iload 4, 2) := by decide +kernel
theorem d_X12_print_39 : decode prog_14_method_82_code 39 = .ok (.ifCond .eq 258, 3) := by decide +kernel
theorem d_X12_print_42 : decode prog_14_method_82_code 42 = .ok (.iconst 0, 1) := by decide +kernel
theorem d_X12_print_43 : decode prog_14_method_82_code 43 = .ok (.istore 5, 2) := by decide +kernel
theorem d_X12_print_45 : decode prog_14_method_82_code 45 = .ok (.iload_n 3, 1) := by decide +kernel
theorem d_X12_print_46 : decode prog_14_method_82_code 46 = .ok (.ifCond .ge 20, 3) := by decide +kernel
theorem d_X12_print_49 : decode prog_14_method_82_code 49 = .ok (.aload_n 0, 1) := by decide +kernel
theorem d_X12_print_50 : decode prog_14_method_82_code 50 = .ok (.bipush 35, 2) := by decide +kernel
theorem d_X12_print_52 : decode prog_14_method_82_code 52 = .ok (.invokevirtual 474, 3) := by decide +kernel
theorem d_X12_print_55 : decode prog_14_method_82_code 55 = .ok (.aload_n 0, 1) := by decide +kernel
theorem d_X12_print_56 : decode prog_14_method_82_code 56 = .ok (.bipush 46, 2) := by decide +kernel
theorem d_X12_print_58 : decode prog_14_method_82_code 58 = .ok (.iload_n 3, 1) := by decide +kernel
theorem d_X12_print_59 : decode prog_14_method_82_code 59 = .ok (.isub, 1) := by decide +kernel
theorem d_X12_print_60 : decode prog_14_method_82_code 60 = .ok (.invokevirtual 474, 3) := by decide +kernel
theorem d_X12_print_63 : decode prog_14_method_82_code 63 = .ok (.goto 106, 3) := by decide +kernel
theorem d_X12_print_66 : decode prog_14_method_82_code 66 = .ok (.iload_n 3, 1) := by decide +kernel
theorem d_X12_print_67 : decode prog_14_method_82_code 67 = .ok (.iconst 5, 1) := by decide +kernel
theorem d_X12_print_68 : decode prog_14_method_82_code 68 = .ok (.irem, 1) := by decide +kernel
theorem d_X12_print_69 : decode prog_14_method_82_code 69 = .ok (.ifCond .eq 12, 3) := by decide +kernel
theorem d_X12_print_72 : decode prog_14_method_82_code 72 = .ok (.aload_n 0, 1) := by decide +kernel
theorem d_X12_print_73 : decode prog_14_method_82_code 73 = .ok (.bipush 64, 2) := by decide +kernel
theorem d_X12_print_75 : decode prog_14_method_82_code 75 = .ok (.invokevirtual 474, 3) := by decide +kernel
theorem d_X12_print_78 : decode prog_14_method_82_code 78 = .ok (.goto 91, 3) := by decide +kernel
theorem d_X12_print_81 : decode prog_14_method_82_code 81 = .ok (.iload_n 2, 1) := by decide +kernel
theorem d_X12_print_82 : decode prog_14_method_82_code 82 = .ok (.bipush 40, 2) := by decide +kernel
theorem d_X12_print_84 : decode prog_14_method_82_code 84 = .ok (.if_icmp .ne 12, 3) := by decide +kernel
theorem d_X12_print_87 : decode prog_14_method_82_code 87 = .ok (.aload_n 0, 1) := by decide +kernel
theorem d_X12_print_88 : decode prog_14_method_82_code 88 = .ok (.bipush 126, 2) := by decide +kernel
theorem d_X12_print_90 : decode prog_14_method_82_code 90 = .ok (.invokevirtual 474, 3) := by decide +kernel
theorem d_X12_print_93 : decode prog_14_method_82_code 93 = .ok (.goto 76, 3) := by decide +kernel
theorem d_X12_print_96 : decode prog_14_method_82_code 96 = .ok (.iload_n 3, 1) := by decide +kernel
theorem d_X12_print_97 : decode prog_14_method_82_code 97 = .ok (.iconst 5, 1) := by decide +kernel
theorem d_X12_print_98 : decode prog_14_method_82_code 98 = .ok (.idiv, 1) := by decide +kernel
theorem d_X12_print_99 : decode prog_14_method_82_code 99 = .ok (.istore 6, 2) := by decide +kernel
theorem d_X12_print_101 : decode prog_14_method_82_code 101 = .ok (.aload_n 0, 1) := by decide +kernel
theorem d_X12_print_102 : decode prog_14_method_82_code 102 = .ok (.aload_n 0, 1) := by decide +kernel
theorem d_X12_print_103 : decode prog_14_method_82_code 103 = .ok (.getfield 17, 3) := by decide +kernel
theorem d_X12_print_106 : decode prog_14_method_82_code 106 = .ok (.aload_n 0, 1) := by decide +kernel
theorem d_X12_print_107 : decode prog_14_method_82_code 107 = .ok (.getfield 49, 3) := by decide +kernel
theorem d_X12_print_110 : decode prog_14_method_82_code 110 = .ok (.iload 6, 2) := by decide +kernel
theorem d_X12_print_112 : decode prog_14_method_82_code 112 = .ok (.iaload, 1) := by decide +kernel
theorem d_X12_print_113 : decode prog_14_method_82_code 113 = .ok (.laload, 1) := by decide +kernel
theorem d_X12_print_114 : decode prog_14_method_82_code 114 = .ok (.invokevirtual 477, 3) := by decide +kernel
theorem d_X12_print_117 : decode prog_14_method_82_code 117 = .ok (.aload_n 0, 1) := by decide +kernel
theorem d_X12_print_118 : decode prog_14_method_82_code 118 = .ok (.getfield 21, 3) := by decide +kernel
theorem d_X12_print_121 : decode prog_14_method_82_code 121 = .ok (.aload_n 0, 1) := by decide +kernel
theorem d_X12_print_122 : decode prog_14_method_82_code 122 = .ok (.getfield 49, 3) := by decide +kernel
theorem d_X12_print_125 : decode prog_14_method_82_code 125 = .ok (.iload 6, 2) := by decide +kernel
theorem d_X12_print_127 : decode prog_14_method_82_code 127 = .ok (.iaload, 1) := by decide +kernel
theorem d_X12_print_128 : decode prog_14_method_82_code 128 = .ok (.iaload, 1) := by decide +kernel
theorem d_X12_print_129 : decode prog_14_method_82_code 129 = .ok (.iconst 1, 1) := by decide +kernel
theorem d_X12_print_130 : decode prog_14_method_82_code 130 = .ok (.if_icmp .le 7, 3) := by decide +kernel
theorem d_X12_print_133 : decode prog_14_method_82_code 133 = .ok (.iconst 1, 1) := by decide +kernel
theorem d_X12_print_134 : decode prog_14_method_82_code 134 = .ok (.goto 4, 3) := by decide +kernel
theorem d_X12_print_137 : decode prog_14_method_82_code 137 = .ok (.iconst 0, 1) := by decide +kernel
theorem d_X12_print_138 : decode prog_14_method_82_code 138 = .ok (.istore 5, 2) := by decide +kernel
theorem d_X12_print_140 : decode prog_14_method_82_code 140 = .ok (.iload 5, 2) := by decide +kernel
theorem d_X12_print_142 : decode prog_14_method_82_code 142 = .ok (.ifCond .eq 27, 3) := by decide +kernel
theorem d_X12_print_145 : decode prog_14_method_82_code 145 = .ok (.aload_n 0, 1) := by decide +kernel
theorem d_X12_print_146 : decode prog_14_method_82_code 146 = .ok (.bipush 40, 2) := by decide +kernel
theorem d_X12_print_148 : decode prog_14_method_82_code 148 = .ok (.invokevirtual 474, 3) := by decide +kernel
theorem d_X12_print_151 : decode prog_14_method_82_code 151 = .ok (.aload_n 0, 1) := by decide +kernel
theorem d_X12_print_152 : decode prog_14_method_82_code 152 = .ok (.getfield 173, 3) := by decide +kernel
theorem d_X12_print_155 : decode prog_14_method_82_code 155 = .ok (.iload_n 2, 1) := by decide +kernel
theorem d_X12_print_156 : decode prog_14_method_82_code 156 = .ok (.iload 6, 2) := by decide +kernel
theorem d_X12_print_158 : decode prog_14_method_82_code 158 = .ok (.iastore, 1) := by decide +kernel
theorem d_X12_print_159 : decode prog_14_method_82_code 159 = .ok (.aload_n 0, 1) := by decide +kernel
theorem d_X12_print_160 : decode prog_14_method_82_code 160 = .ok (.getfield 176, 3) := by decide +kernel
theorem d_X12_print_163 : decode prog_14_method_82_code 163 = .ok (.iload_n 2, 1) := by decide +kernel
theorem d_X12_print_164 : decode prog_14_method_82_code 164 = .ok (.iconst 0, 1) := by decide +kernel
theorem d_X12_print_165 : decode prog_14_method_82_code 165 = .ok (.iastore, 1) := by decide +kernel
theorem d_X12_print_166 : decode prog_14_method_82_code 166 = .ok (.iinc 2 1, 3) := by decide +kernel
theorem d_X12_print_169 : decode prog_14_method_82_code 169 = .ok (.iconst 0, 1) := by decide +kernel
theorem d_X12_print_170 : decode prog_14_method_82_code 170 = .ok (.istore 6, 2) := by decide +kernel
theorem d_X12_print_172 : decode prog_14_method_82_code 172 = .ok (.iload 5, 2) := by decide +kernel
theorem d_X12_print_174 : decode prog_14_method_82_code 174 = .ok (.istore 7, 2) := by decide +kernel
theorem d_X12_print_176 : decode prog_14_method_82_code 176 = .ok (.iload_n 2, 1) := by decide +kernel
theorem d_X12_print_177 : decode prog_14_method_82_code 177 = .ok (.ifCond .le 113, 3) := by decide +kernel
theorem d_X12_print_180 : decode prog_14_method_82_code 180 = .ok (.iload 6, 2) := by decide +kernel
theorem d_X12_print_182 : decode prog_14_method_82_code 182 = .ok (.ifCond .ne 108, 3) := by decide +kernel
theorem d_X12_print_185 : decode prog_14_method_82_code 185 = .ok (.aload_n 0, 1) := by decide +kernel
theorem d_X12_print_186 : decode prog_14_method_82_code 186 = .ok (.getfield 173, 3) := by decide +kernel
theorem d_X12_print_189 : decode prog_14_method_82_code 189 = .ok (.iload_n 2, 1) := by decide +kernel
theorem d_X12_print_190 : decode prog_14_method_82_code 190 = .ok (.iconst 1, 1) := by decide +kernel
theorem d_X12_print_191 : decode prog_14_method_82_code 191 = .ok (.isub, 1) := by decide +kernel
theorem d_X12_print_192 : decode prog_14_method_82_code 192 = .ok (.iaload, 1) := by decide +kernel
theorem d_X12_print_193 : decode prog_14_method_82_code 193 = .ok (.istore 8, 2) := by decide +kernel
theorem d_X12_print_195 : decode prog_14_method_82_code 195 = .ok (.aload_n 0, 1) := by decide +kernel
theorem d_X12_print_196 : decode prog_14_method_82_code 196 = .ok (.getfield 176, 3) := by decide +kernel
theorem d_X12_print_199 : decode prog_14_method_82_code 199 = .ok (.iload_n 2, 1) := by decide +kernel
theorem d_X12_print_200 : decode prog_14_method_82_code 200 = .ok (.iconst 1, 1) := by decide +kernel
theorem d_X12_print_201 : decode prog_14_method_82_code 201 = .ok (.isub, 1) := by decide +kernel
theorem d_X12_print_202 : decode prog_14_method_82_code 202 = .ok (.dup2, 1) := by decide +kernel
theorem d_X12_print_203 : decode prog_14_method_82_code 203 = .ok (.iaload, 1) := by decide +kernel
theorem d_X12_print_204 : decode prog_14_method_82_code 204 = .ok (.iconst 1, 1) := by decide +kernel
theorem d_X12_print_205 : decode prog_14_method_82_code 205 = .ok (.iadd, 1) := by decide +kernel
theorem d_X12_print_206 : decode prog_14_method_82_code 206 = .ok (.iastore, 1) := by decide +kernel
theorem d_X12_print_207 : decode prog_14_method_82_code 207 = .ok (.aload_n 0, 1) := by decide +kernel
theorem d_X12_print_208 : decode prog_14_method_82_code 208 = .ok (.getfield 176, 3) := by decide +kernel
theorem d_X12_print_211 : decode prog_14_method_82_code 211 = .ok (.iload_n 2, 1) := by decide +kernel
theorem d_X12_print_212 : decode prog_14_method_82_code 212 = .ok (.iconst 1, 1) := by decide +kernel
theorem d_X12_print_213 : decode prog_14_method_82_code 213 = .ok (.isub, 1) := by decide +kernel
theorem d_X12_print_214 : decode prog_14_method_82_code 214 = .ok (.iaload, 1) := by decide +kernel
theorem d_X12_print_215 : decode prog_14_method_82_code 215 = .ok (.aload_n 0, 1) := by decide +kernel
theorem d_X12_print_216 : decode prog_14_method_82_code 216 = .ok (.getfield 21, 3) := by decide +kernel
theorem d_X12_print_219 : decode prog_14_method_82_code 219 = .ok (.aload_n 0, 1) := by decide +kernel
theorem d_X12_print_220 : decode prog_14_method_82_code 220 = .ok (.getfield 49, 3) := by decide +kernel
theorem d_X12_print_223 : decode prog_14_method_82_code 223 = .ok (.iload 8, 2) := by decide +kernel
theorem d_X12_print_225 : decode prog_14_method_82_code 225 = .ok (.iaload, 1) := by decide +kernel
theorem d_X12_print_226 : decode prog_14_method_82_code 226 = .ok (.iaload, 1) := by decide +kernel
theorem d_X12_print_227 : decode prog_14_method_82_code 227 = .ok (.if_icmp .ge 7, 3) := by decide +kernel
theorem d_X12_print_230 : decode prog_14_method_82_code 230 = .ok (.iconst 1, 1) := by decide +kernel
theorem d_X12_print_231 : decode prog_14_method_82_code 231 = .ok (.goto 4, 3) := by decide +kernel
theorem d_X12_print_234 : decode prog_14_method_82_code 234 = .ok (.iconst 0, 1) := by decide +kernel
theorem d_X12_print_235 : decode prog_14_method_82_code 235 = .ok (.istore 6, 2) := by decide +kernel
theorem d_X12_print_237 : decode prog_14_method_82_code 237 = .ok (.iload 6, 2) := by decide +kernel
theorem d_X12_print_239 : decode prog_14_method_82_code 239 = .ok (.ifCond .eq 36, 3) := by decide +kernel
theorem d_X12_print_242 : decode prog_14_method_82_code 242 = .ok (.iload 7, 2) := by decide +kernel
theorem d_X12_print_244 : decode prog_14_method_82_code 244 = .ok (.ifCond .ne 9, 3) := by decide +kernel
theorem d_X12_print_247 : decode prog_14_method_82_code 247 = .ok (.aload_n 0, 1) := by decide +kernel
theorem d_X12_print_248 : decode prog_14_method_82_code 248 = .ok (.bipush 44, 2) := by decide +kernel
theorem d_X12_print_250 : decode prog_14_method_82_code 250 = .ok (.invokevirtual 474, 3) := by decide +kernel
theorem d_X12_print_253 : decode prog_14_method_82_code 253 = .ok (.aload_n 0, 1) := by decide +kernel
theorem d_X12_print_254 : decode prog_14_method_82_code 254 = .ok (.getfield 52, 3) := by decide +kernel
theorem d_X12_print_257 : decode prog_14_method_82_code 257 = .ok (.iconst 5, 1) := by decide +kernel
theorem d_X12_print_258 : decode prog_14_method_82_code 258 = .ok (.iload 8, 2) := by decide +kernel
theorem d_X12_print_260 : decode prog_14_method_82_code 260 = .ok (.imul, 1) := by decide +kernel
theorem d_X12_print_261 : decode prog_14_method_82_code 261 = .ok (.aload_n 0, 1) := by decide +kernel
theorem d_X12_print_262 : decode prog_14_method_82_code 262 = .ok (.getfield 176, 3) := by decide +kernel
theorem d_X12_print_265 : decode prog_14_method_82_code 265 = .ok (.iload_n 2, 1) := by decide +kernel
theorem d_X12_print_266 : decode prog_14_method_82_code 266 = .ok (.iconst 1, 1) := by decide +kernel
theorem d_X12_print_267 : decode prog_14_method_82_code 267 = .ok (.isub, 1) := by decide +kernel
theorem d_X12_print_268 : decode prog_14_method_82_code 268 = .ok (.iaload, 1) := by decide +kernel
theorem d_X12_print_269 : decode prog_14_method_82_code 269 = .ok (.iadd, 1) := by decide +kernel
theorem d_X12_print_270 : decode prog_14_method_82_code 270 = .ok (.iaload, 1) := by decide +kernel
theorem d_X12_print_271 : decode prog_14_method_82_code 271 = .ok (.istore_n 3, 1) := by decide +kernel
theorem d_X12_print_272 : decode prog_14_method_82_code 272 = .ok (.goto 12, 3) := by decide +kernel
theorem d_X12_print_275 : decode prog_14_method_82_code 275 = .ok (.aload_n 0, 1) := by decide +kernel
theorem d_X12_print_276 : decode prog_14_method_82_code 276 = .ok (.bipush 41, 2) := by decide +kernel
theorem d_X12_print_278 : decode prog_14_method_82_code 278 = .ok (.invokevirtual 474, 3) := by decide +kernel
theorem d_X12_print_281 : decode prog_14_method_82_code 281 = .ok (.iinc 2 (-1), 3) := by decide +kernel
theorem d_X12_print_284 : decode prog_14_method_82_code 284 = .ok (.iconst 0, 1) := by decide +kernel
theorem d_X12_print_285 : decode prog_14_method_82_code 285 = .ok (.istore 7, 2) := by decide +kernel
theorem d_X12_print_287 : decode prog_14_method_82_code 287 = .ok (.goto (-111), 3) := by decide +kernel
theorem d_X12_print_290 : decode prog_14_method_82_code 290 = .ok (.iload 6, 2) := by decide +kernel
theorem d_X12_print_292 : decode prog_14_method_82_code 292 = .ok (.istore 4, 2) := by decide +kernel
theorem d_X12_print_294 : decode prog_14_method_82_code 294 = .ok (.goto (-257), 3) := by decide +kernel
theorem d_X12_print_297 : decode prog_14_method_82_code 297 = .ok (.aload_n 0, 1) := by decide +kernel
theorem d_X12_print_298 : decode prog_14_method_82_code 298 = .ok (.getfield 401, 3) := by decide +kernel
theorem d_X12_print_301 : decode prog_14_method_82_code 301 = .ok (.ireturn, 1) := by decide +kernel
theorem d_X12_reached_0 : decode prog_14_method_79_code 0 = .ok (.aload_n 0, 1) := by decide +kernel
theorem d_X12_reached_1 : decode prog_14_method_79_code 1 = .ok (.iconst 0, 1) := by decide +kernel
theorem d_X12_reached_2 : decode prog_14_method_79_code 2 = .ok (.iconst 0, 1) := by decide +kernel
theorem d_X12_reached_3 : decode prog_14_method_79_code 3 = .ok (.invokevirtual 463, 3) := by decide +kernel
theorem d_X12_reached_6 : decode prog_14_method_79_code 6 = .ok (.aload_n 0, 1) := by decide +kernel
theorem d_X12_reached_7 : decode prog_14_method_79_code 7 = .ok (.getfield 170, 3) := by decide +kernel
theorem d_X12_reached_10 : decode prog_14_method_79_code 10 = .ok (.iconst 0, 1) := by decide +kernel
theorem d_X12_reached_11 : decode prog_14_method_79_code 11 = .ok (.iaload, 1) := by decide +kernel
theorem d_X12_reached_12 : decode prog_14_method_79_code 12 = .ok (.ireturn, 1) := by decide +kernel
theorem d_X12_readPort_0 : decode prog_14_method_19_code 0 = .ok (.aload_n 0, 1) := by decide +kernel
theorem d_X12_readPort_1 : decode prog_14_method_19_code 1 = .ok (.getfield 205, 3) := by decide +kernel
theorem d_X12_readPort_4 : decode prog_14_method_19_code 4 = .ok (.iconst 1, 1) := by decide +kernel
theorem d_X12_readPort_5 : decode prog_14_method_19_code 5 = .ok (.if_icmp .ne 11, 3) := by decide +kernel
theorem d_X12_readPort_8 : decode prog_14_method_19_code 8 = .ok (.aload_n 0, 1) := by decide +kernel
theorem d_X12_readPort_9 : decode prog_14_method_19_code 9 = .ok (.getfield 228, 3) := by decide +kernel
theorem d_X12_readPort_12 : decode prog_14_method_19_code 12 = .ok (.iconst 1, 1) := by decide +kernel
theorem d_X12_readPort_13 : decode prog_14_method_19_code 13 = .ok (.if_icmp .eq 8, 3) := by decide +kernel
theorem d_X12_readPort_16 : decode prog_14_method_19_code 16 = .ok (.aload_n 0, 1) := by decide +kernel
theorem d_X12_readPort_17 : decode prog_14_method_19_code 17 = .ok (.invokevirtual 241, 3) := by decide +kernel
theorem d_X12_readPort_20 : decode prog_14_method_19_code 20 = .ok (.ireturn, 1) := by decide +kernel
theorem d_X12_readPort_21 : decode prog_14_method_19_code 21 = .ok (.aload_n 0, 1) := by decide +kernel
theorem d_X12_readPort_22 : decode prog_14_method_19_code 22 = .ok (.getfield 71, 3) := by decide +kernel
theorem d_X12_readPort_25 : decode prog_14_method_19_code 25 = .ok (.aload_n 0, 1) := by decide +kernel
theorem d_X12_readPort_26 : decode prog_14_method_19_code 26 = .ok (.getfield 248, 3) := by decide +kernel
theorem d_X12_readPort_29 : decode prog_14_method_19_code 29 = .ok (.iaload, 1) := by decide +kernel
theorem d_X12_readPort_30 : decode prog_14_method_19_code 30 = .ok (.istore_n 1, 1) := by decide +kernel
theorem d_X12_readPort_31 : decode prog_14_method_19_code 31 = .ok (.iload_n 1, 1) := by decide +kernel
theorem d_X12_readPort_32 : decode prog_14_method_19_code 32 = .ok (.iconst 5, 1) := by decide +kernel
theorem d_X12_readPort_33 : decode prog_14_method_19_code 33 = .ok (.if_icmp .ne 13, 3) := by decide +kernel
theorem d_X12_readPort_36 : decode prog_14_method_19_code 36 = .ok (.aload_n 0, 1) := by decide +kernel
theorem d_X12_readPort_37 : decode prog_14_method_19_code 37 = .ok (.iconst 4, 1) := by decide +kernel
theorem d_X12_readPort_38 : decode prog_14_method_19_code 38 = .ok (.aload_n 0, 1) := by decide +kernel
theorem d_X12_readPort_39 : decode prog_14_method_19_code 39 = .ok (.getfield 202, 3) := by decide +kernel
theorem d_X12_readPort_42 : decode prog_14_method_19_code 42 = .ok (.invokevirtual 234, 3) := by decide +kernel
theorem d_X12_readPort_45 : decode prog_14_method_19_code 45 = .ok (.ireturn, 1) := by decide +kernel
theorem d_X12_readPort_46 : decode prog_14_method_19_code 46 = .ok (.aload_n 0, 1) := by decide +kernel
theorem d_X12_readPort_47 : decode prog_14_method_19_code 47 = .ok (.getfield 225, 3) := by decide +kernel
theorem d_X12_readPort_50 : decode prog_14_method_19_code 50 = .ok (.l2i, 1) := by decide +kernel
theorem d_X12_readPort_51 : decode prog_14_method_19_code 51 = .ok (.bipush 97, 2) := by decide +kernel
theorem d_X12_readPort_53 : decode prog_14_method_19_code 53 = .ok (.isub, 1) := by decide +kernel
theorem d_X12_readPort_54 : decode prog_14_method_19_code 54 = .ok (.istore_n 2, 1) := by decide +kernel
theorem d_X12_readPort_55 : decode prog_14_method_19_code 55 = .ok (.aload_n 0, 1) := by decide +kernel
theorem d_X12_readPort_56 : decode prog_14_method_19_code 56 = .ok (.invokevirtual 245, 3) := by decide +kernel
theorem d_X12_readPort_59 : decode prog_14_method_19_code 59 = .ok (.aload_n 0, 1) := by decide +kernel
theorem d_X12_readPort_60 : decode prog_14_method_19_code 60 = .ok (.bipush 43, 2) := by decide +kernel
theorem d_X12_readPort_62 : decode prog_14_method_19_code 62 = .ok (.invokevirtual 238, 3) := by decide +kernel
theorem d_X12_readPort_65 : decode prog_14_method_19_code 65 = .ok (.ifCond .ne 17, 3) := by decide +kernel
theorem d_X12_readPort_68 : decode prog_14_method_19_code 68 = .ok (.aload_n 0, 1) := by decide +kernel
theorem d_X12_readPort_69 : decode prog_14_method_19_code 69 = .ok (.bipush 45, 2) := by decide +kernel
theorem d_X12_readPort_71 : decode prog_14_method_19_code 71 = .ok (.invokevirtual 238, 3) := by decide +kernel
theorem d_X12_readPort_74 : decode prog_14_method_19_code 74 = .ok (.ifCond .ne 8, 3) := by decide +kernel
theorem d_X12_readPort_77 : decode prog_14_method_19_code 77 = .ok (.aload_n 0, 1) := by decide +kernel
theorem d_X12_readPort_78 : decode prog_14_method_19_code 78 = .ok (.invokevirtual 241, 3) := by decide +kernel
theorem d_X12_readPort_81 : decode prog_14_method_19_code 81 = .ok (.ireturn, 1) := by decide +kernel
theorem d_X12_readPort_82 : decode prog_14_method_19_code 82 = .ok (.aload_n 0, 1) := by decide +kernel
theorem d_X12_readPort_83 : decode prog_14_method_19_code 83 = .ok (.getfield 74, 3) := by decide +kernel
theorem d_X12_readPort_86 : decode prog_14_method_19_code 86 = .ok (.iconst 5, 1) := by decide +kernel
theorem d_X12_readPort_87 : decode prog_14_method_19_code 87 = .ok (.aload_n 0, 1) := by decide +kernel
theorem d_X12_readPort_88 : decode prog_14_method_19_code 88 = .ok (.getfield 248, 3) := by decide +kernel
theorem d_X12_readPort_91 : decode prog_14_method_19_code 91 = .ok (.imul, 1) := by decide +kernel
theorem d_X12_readPort_92 : decode prog_14_method_19_code 92 = .ok (.iload_n 1, 1) := by decide +kernel
theorem d_X12_readPort_93 : decode prog_14_method_19_code 93 = .ok (.iadd, 1) := by decide +kernel
theorem d_X12_readPort_94 : decode prog_14_method_19_code 94 = .ok (.iload_n 2, 1) := by decide +kernel
theorem d_X12_readPort_95 : decode prog_14_method_19_code 95 = .ok (.iastore, 1) := by decide +kernel
theorem d_X12_readPort_96 : decode prog_14_method_19_code 96 = .ok (.aload_n 0, 1) := by decide +kernel
theorem d_X12_readPort_97 : decode prog_14_method_19_code 97 = .ok (.getfield 77, 3) := by decide +kernel
theorem d_X12_readPort_100 : decode prog_14_method_19_code 100 = .ok (.iconst 5, 1) := by decide +kernel
theorem d_X12_readPort_101 : decode prog_14_method_19_code 101 = .ok (.aload_n 0, 1) := by decide +kernel
theorem d_X12_readPort_102 : decode prog_14_method_19_code 102 = .ok (.getfield 248, 3) := by decide +kernel
theorem d_X12_readPort_105 : decode prog_14_method_19_code 105 = .ok (.imul, 1) := by decide +kernel
theorem d_X12_readPort_106 : decode prog_14_method_19_code 106 = .ok (.iload_n 1, 1) := by decide +kernel
theorem d_X12_readPort_107 : decode prog_14_method_19_code 107 = .ok (.iadd, 1) := by decide +kernel
theorem d_X12_readPort_108 : decode prog_14_method_19_code 108 = .ok (.aload_n 0, 1) := by decide +kernel
theorem d_X12_readPort_109 : decode prog_14_method_19_code 109 = .ok (.getfield 222, 3) := by decide +kernel
theorem d_X12_readPort_112 : decode prog_14_method_19_code 112 = .ok (.bipush 43, 2) := by decide +kernel
theorem d_X12_readPort_114 : decode prog_14_method_19_code 114 = .ok (.if_icmp .ne 7, 3) := by decide +kernel
theorem d_X12_readPort_117 : decode prog_14_method_19_code 117 = .ok (.iconst 1, 1) := by decide +kernel
theorem d_X12_readPort_118 : decode prog_14_method_19_code 118 = .ok (.goto 4, 3) := by decide +kernel
theorem d_X12_readPort_121 : decode prog_14_method_19_code 121 = .ok (.iconst 0, 1) := by decide +kernel
theorem d_X12_readPort_122 : decode prog_14_method_19_code 122 = .ok (.bastore, 1) := by decide +kernel
theorem d_X12_readPort_123 : decode prog_14_method_19_code 123 = .ok (.aload_n 0, 1) := by decide +kernel
theorem d_X12_readPort_124 : decode prog_14_method_19_code 124 = .ok (.getfield 71, 3) := by decide +kernel
theorem d_X12_readPort_127 : decode prog_14_method_19_code 127 = .ok (.aload_n 0, 1) := by decide +kernel
theorem d_X12_readPort_128 : decode prog_14_method_19_code 128 = .ok (.getfield 248, 3) := by decide +kernel
theorem d_X12_readPort_131 : decode prog_14_method_19_code 131 = .ok (.dup2, 1) := by decide +kernel
theorem d_X12_readPort_132 : decode prog_14_method_19_code 132 = .ok (.iaload, 1) := by decide +kernel
theorem d_X12_readPort_133 : decode prog_14_method_19_code 133 = .ok (.iconst 1, 1) := by decide +kernel
theorem d_X12_readPort_134 : decode prog_14_method_19_code 134 = .ok (.iadd, 1) := by decide +kernel
theorem d_X12_readPort_135 : decode prog_14_method_19_code 135 = .ok (.iastore, 1) := by decide +kernel
theorem d_X12_readPort_136 : decode prog_14_method_19_code 136 = .ok (.aload_n 0, 1) := by decide +kernel
theorem d_X12_readPort_137 : decode prog_14_method_19_code 137 = .ok (.invokevirtual 245, 3) := by decide +kernel
theorem d_X12_readPort_140 : decode prog_14_method_19_code 140 = .ok (.iconst 1, 1) := by decide +kernel
theorem d_X12_readPort_141 : decode prog_14_method_19_code 141 = .ok (.ireturn, 1) := by decide +kernel
theorem d_X12_readKind_0 : decode prog_14_method_18_code 0 = .ok (.aload_n 0, 1) := by decide +kernel
theorem d_X12_readKind_1 : decode prog_14_method_18_code 1 = .ok (.invokevirtual 245, 3) := by decide +kernel
theorem d_X12_readKind_4 : decode prog_14_method_18_code 4 = .ok (.aload_n 0, 1) := by decide +kernel
theorem d_X12_readKind_5 : decode prog_14_method_18_code 5 = .ok (.getfield 205, 3) := by decide +kernel
theorem d_X12_readKind_8 : decode prog_14_method_18_code 8 = .ok (.iconst 2, 1) := by decide +kernel
theorem d_X12_readKind_9 : decode prog_14_method_18_code 9 = .ok (.if_icmp .eq 8, 3) := by decide +kernel
theorem d_X12_readKind_12 : decode prog_14_method_18_code 12 = .ok (.aload_n 0, 1) := by decide +kernel
theorem d_X12_readKind_13 : decode prog_14_method_18_code 13 = .ok (.invokevirtual 241, 3) := by decide +kernel
theorem d_X12_readKind_16 : decode prog_14_method_18_code 16 = .ok (.ireturn, 1) := by decide +kernel
theorem d_X12_readKind_17 : decode prog_14_method_18_code 17 = .ok (.aload_n 0, 1) := by decide +kernel
theorem d_X12_readKind_18 : decode prog_14_method_18_code 18 = .ok (.aload_n 0, 1) := by decide +kernel
theorem d_X12_readKind_19 : decode prog_14_method_18_code 19 = .ok (.getfield 225, 3) := by decide +kernel
theorem d_X12_readKind_22 : decode prog_14_method_18_code 22 = .ok (.invokevirtual 251, 3) := by decide +kernel
theorem d_X12_readKind_25 : decode prog_14_method_18_code 25 = .ok (.ifCond .lt 13, 3) := by decide +kernel
theorem d_X12_readKind_28 : decode prog_14_method_18_code 28 = .ok (.aload_n 0, 1) := by decide +kernel
theorem d_X12_readKind_29 : decode prog_14_method_18_code 29 = .ok (.iconst 3, 1) := by decide +kernel
theorem d_X12_readKind_30 : decode prog_14_method_18_code 30 = .ok (.aload_n 0, 1) := by decide +kernel
theorem d_X12_readKind_31 : decode prog_14_method_18_code 31 = .ok (.getfield 202, 3) := by decide +kernel
theorem d_X12_readKind_34 : decode prog_14_method_18_code 34 = .ok (.invokevirtual 234, 3) := by decide +kernel
theorem d_X12_readKind_37 : decode prog_14_method_18_code 37 = .ok (.ireturn, 1) := by decide +kernel
theorem d_X12_readKind_38 : decode prog_14_method_18_code 38 = .ok (.aload_n 0, 1) := by decide +kernel
theorem d_X12_readKind_39 : decode prog_14_method_18_code 39 = .ok (.getfield 248, 3) := by decide +kernel
theorem d_X12_readKind_42 : decode prog_14_method_18_code 42 = .ok (.bipush 16, 2) := by decide +kernel
theorem d_X12_readKind_44 : decode prog_14_method_18_code 44 = .ok (.if_icmp .ne 13, 3) := by decide +kernel
theorem d_X12_readKind_47 : decode prog_14_method_18_code 47 = .ok (.aload_n 0, 1) := by decide +kernel
theorem d_X12_readKind_48 : decode prog_14_method_18_code 48 = .ok (.iconst 4, 1) := by decide +kernel
theorem d_X12_readKind_49 : decode prog_14_method_18_code 49 = .ok (.aload_n 0, 1) := by decide +kernel
theorem d_X12_readKind_50 : decode prog_14_method_18_code 50 = .ok (.getfield 202, 3) := by decide +kernel
theorem d_X12_readKind_53 : decode prog_14_method_18_code 53 = .ok (.invokevirtual 234, 3) := by decide +kernel
theorem d_X12_readKind_56 : decode prog_14_method_18_code 56 = .ok (.ireturn, 1) := by decide +kernel
theorem d_X12_readKind_57 : decode prog_14_method_18_code 57 = .ok (.aload_n 0, 1) := by decide +kernel
theorem d_X12_readKind_58 : decode prog_14_method_18_code 58 = .ok (.getfield 68, 3) := by decide +kernel
theorem d_X12_readKind_61 : decode prog_14_method_18_code 61 = .ok (.aload_n 0, 1) := by decide +kernel
theorem d_X12_readKind_62 : decode prog_14_method_18_code 62 = .ok (.getfield 248, 3) := by decide +kernel
theorem d_X12_readKind_65 : decode prog_14_method_18_code 65 = .ok (.aload_n 0, 1) := by decide +kernel
theorem d_X12_readKind_66 : decode prog_14_method_18_code 66 = .ok (.getfield 225, 3) := by decide +kernel
theorem d_X12_readKind_69 : decode prog_14_method_18_code 69 = .ok (.lastore, 1) := by decide +kernel
theorem d_X12_readKind_70 : decode prog_14_method_18_code 70 = .ok (.aload_n 0, 1) := by decide +kernel
theorem d_X12_readKind_71 : decode prog_14_method_18_code 71 = .ok (.getfield 71, 3) := by decide +kernel
theorem d_X12_readKind_74 : decode prog_14_method_18_code 74 = .ok (.aload_n 0, 1) := by decide +kernel
theorem d_X12_readKind_75 : decode prog_14_method_18_code 75 = .ok (.getfield 248, 3) := by decide +kernel
theorem d_X12_readKind_78 : decode prog_14_method_18_code 78 = .ok (.iconst 0, 1) := by decide +kernel
theorem d_X12_readKind_79 : decode prog_14_method_18_code 79 = .ok (.iastore, 1) := by decide +kernel
theorem d_X12_readKind_80 : decode prog_14_method_18_code 80 = .ok (.aload_n 0, 1) := by decide +kernel
theorem d_X12_readKind_81 : decode prog_14_method_18_code 81 = .ok (.invokevirtual 245, 3) := by decide +kernel
theorem d_X12_readKind_84 : decode prog_14_method_18_code 84 = .ok (.aload_n 0, 1) := by decide +kernel
theorem d_X12_readKind_85 : decode prog_14_method_18_code 85 = .ok (.invokevirtual 255, 3) := by decide +kernel
theorem d_X12_readKind_88 : decode prog_14_method_18_code 88 = .ok (.ifCond .ne 5, 3) := by decide +kernel
theorem d_X12_readKind_91 : decode prog_14_method_18_code 91 = .ok (.iconst 0, 1) := by decide +kernel
theorem d_X12_readKind_92 : decode prog_14_method_18_code 92 = .ok (.ireturn, 1) := by decide +kernel
theorem d_X12_readKind_93 : decode prog_14_method_18_code 93 = .ok (.aload_n 0, 1) := by decide +kernel
theorem d_X12_readKind_94 : decode prog_14_method_18_code 94 = .ok (.bipush 40, 2) := by decide +kernel
theorem d_X12_readKind_96 : decode prog_14_method_18_code 96 = .ok (.invokevirtual 238, 3) := by decide +kernel
theorem d_X12_readKind_99 : decode prog_14_method_18_code 99 = .ok (.istore_n 1, 1) := by decide +kernel
theorem d_X12_readKind_100 : decode prog_14_method_18_code 100 = .ok (.iload_n 1, 1) := by decide +kernel
theorem d_X12_readKind_101 : decode prog_14_method_18_code 101 = .ok (.istore_n 2, 1) := by decide +kernel
theorem d_X12_readKind_102 : decode prog_14_method_18_code 102 = .ok (.iload_n 1, 1) := by decide +kernel
theorem d_X12_readKind_103 : decode prog_14_method_18_code 103 = .ok (.ifCond .eq 26, 3) := by decide +kernel
theorem d_X12_readKind_106 : decode prog_14_method_18_code 106 = .ok (.aload_n 0, 1) := by decide +kernel
theorem d_X12_readKind_107 : decode prog_14_method_18_code 107 = .ok (.invokevirtual 245, 3) := by decide +kernel
theorem d_X12_readKind_110 : decode prog_14_method_18_code 110 = .ok (.aload_n 0, 1) := by decide +kernel
theorem d_X12_readKind_111 : decode prog_14_method_18_code 111 = .ok (.invokevirtual 255, 3) := by decide +kernel
theorem d_X12_readKind_114 : decode prog_14_method_18_code 114 = .ok (.ifCond .ne 5, 3) := by decide +kernel
theorem d_X12_readKind_117 : decode prog_14_method_18_code 117 = .ok (.iconst 0, 1) := by decide +kernel
theorem d_X12_readKind_118 : decode prog_14_method_18_code 118 = .ok (.ireturn, 1) := by decide +kernel
theorem d_X12_readKind_119 : decode prog_14_method_18_code 119 = .ok (.aload_n 0, 1) := by decide +kernel
theorem d_X12_readKind_120 : decode prog_14_method_18_code 120 = .ok (.bipush 44, 2) := by decide +kernel
theorem d_X12_readKind_122 : decode prog_14_method_18_code 122 = .ok (.invokevirtual 238, 3) := by decide +kernel
theorem d_X12_readKind_125 : decode prog_14_method_18_code 125 = .ok (.istore_n 1, 1) := by decide +kernel
theorem d_X12_readKind_126 : decode prog_14_method_18_code 126 = .ok (.goto (-24), 3) := by decide +kernel
theorem d_X12_readKind_129 : decode prog_14_method_18_code 129 = .ok (.iload_n 2, 1) := by decide +kernel
theorem d_X12_readKind_130 : decode prog_14_method_18_code 130 = .ok (.ifCond .eq 14, 3) := by decide +kernel
theorem d_X12_readKind_133 : decode prog_14_method_18_code 133 = .ok (.aload_n 0, 1) := by decide +kernel
theorem d_X12_readKind_134 : decode prog_14_method_18_code 134 = .ok (.bipush 41, 2) := by decide +kernel
theorem d_X12_readKind_136 : decode prog_14_method_18_code 136 = .ok (.invokevirtual 258, 3) := by decide +kernel
theorem d_X12_readKind_139 : decode prog_14_method_18_code 139 = .ok (.ifCond .ne 5, 3) := by decide +kernel
theorem d_X12_readKind_142 : decode prog_14_method_18_code 142 = .ok (.iconst 0, 1) := by decide +kernel
theorem d_X12_readKind_143 : decode prog_14_method_18_code 143 = .ok (.ireturn, 1) := by decide +kernel
theorem d_X12_readKind_144 : decode prog_14_method_18_code 144 = .ok (.aload_n 0, 1) := by decide +kernel
theorem d_X12_readKind_145 : decode prog_14_method_18_code 145 = .ok (.bipush 59, 2) := by decide +kernel
theorem d_X12_readKind_147 : decode prog_14_method_18_code 147 = .ok (.invokevirtual 238, 3) := by decide +kernel
theorem d_X12_readKind_150 : decode prog_14_method_18_code 150 = .ok (.ifCond .ne 8, 3) := by decide +kernel
theorem d_X12_readKind_153 : decode prog_14_method_18_code 153 = .ok (.aload_n 0, 1) := by decide +kernel
theorem d_X12_readKind_154 : decode prog_14_method_18_code 154 = .ok (.invokevirtual 241, 3) := by decide +kernel
theorem d_X12_readKind_157 : decode prog_14_method_18_code 157 = .ok (.ireturn, 1) := by decide +kernel
theorem d_X12_readKind_158 : decode prog_14_method_18_code 158 = .ok (.aload_n 0, 1) := by decide +kernel
theorem d_X12_readKind_159 : decode prog_14_method_18_code 159 = .ok (.dup, 1) := by decide +kernel
theorem d_X12_readKind_160 : decode prog_14_method_18_code 160 = .ok (.getfield 248, 3) := by decide +kernel
theorem d_X12_readKind_163 : decode prog_14_method_18_code 163 = .ok (.iconst 1, 1) := by decide +kernel
theorem d_X12_readKind_164 : decode prog_14_method_18_code 164 = .ok (.iadd, 1) := by decide +kernel
theorem d_X12_readKind_165 : decode prog_14_method_18_code 165 = .ok (.putfield 248, 3) := by decide +kernel
theorem d_X12_readKind_168 : decode prog_14_method_18_code 168 = .ok (.iconst 1, 1) := by decide +kernel
theorem d_X12_readKind_169 : decode prog_14_method_18_code 169 = .ok (.ireturn, 1) := by decide +kernel
theorem d_X12_useName_0 : decode prog_14_method_22_code 0 = .ok (.iconst 0, 1) := by decide +kernel
theorem d_X12_useName_1 : decode prog_14_method_22_code 1 = .ok (.istore_n 1, 1) := by decide +kernel
theorem d_X12_useName_2 : decode prog_14_method_22_code 2 = .ok (.iload_n 1, 1) := by decide +kernel
theorem d_X12_useName_3 : decode prog_14_method_22_code 3 = .ok (.aload_n 0, 1) := by decide +kernel
theorem d_X12_useName_4 : decode prog_14_method_22_code 4 = .ok (.getfield 267, 3) := by decide +kernel
theorem d_X12_useName_7 : decode prog_14_method_22_code 7 = .ok (.if_icmp .ge 23, 3) := by decide +kernel
theorem d_X12_useName_10 : decode prog_14_method_22_code 10 = .ok (.aload_n 0, 1) := by decide +kernel
theorem d_X12_useName_11 : decode prog_14_method_22_code 11 = .ok (.getfield 107, 3) := by decide +kernel
theorem d_X12_useName_14 : decode prog_14_method_22_code 14 = .ok (.iload_n 1, 1) := by decide +kernel
theorem d_X12_useName_15 : decode prog_14_method_22_code 15 = .ok (.laload, 1) := by decide +kernel
theorem d_X12_useName_16 : decode prog_14_method_22_code 16 = .ok (.aload_n 0, 1) := by decide +kernel
theorem d_X12_useName_17 : decode prog_14_method_22_code 17 = .ok (.getfield 225, 3) := by decide +kernel
theorem d_X12_useName_20 : decode prog_14_method_22_code 20 = .ok (.lcmp, 1) := by decide +kernel
theorem d_X12_useName_21 : decode prog_14_method_22_code 21 = .ok (.ifCond .eq 9, 3) := by decide +kernel
theorem d_X12_useName_24 : decode prog_14_method_22_code 24 = .ok (.iinc 1 1, 3) := by decide +kernel
theorem d_X12_useName_27 : decode prog_14_method_22_code 27 = .ok (.goto (-25), 3) := by decide +kernel
theorem d_X12_useName_30 : decode prog_14_method_22_code 30 = .ok (.iload_n 1, 1) := by decide +kernel
theorem d_X12_useName_31 : decode prog_14_method_22_code 31 = .ok (.bipush 60, 2) := by decide +kernel
theorem d_X12_useName_33 : decode prog_14_method_22_code 33 = .ok (.if_icmp .ne 5, 3) := by decide +kernel
theorem d_X12_useName_36 : decode prog_14_method_22_code 36 = .ok (.iconst (-1), 1) := by decide +kernel
theorem d_X12_useName_37 : decode prog_14_method_22_code 37 = .ok (.ireturn, 1) := by decide +kernel
theorem d_X12_useName_38 : decode prog_14_method_22_code 38 = .ok (.iload_n 1, 1) := by decide +kernel
theorem d_X12_useName_39 : decode prog_14_method_22_code 39 = .ok (.aload_n 0, 1) := by decide +kernel
theorem d_X12_useName_40 : decode prog_14_method_22_code 40 = .ok (.getfield 267, 3) := by decide +kernel
theorem d_X12_useName_43 : decode prog_14_method_22_code 43 = .ok (.if_icmp .ne 30, 3) := by decide +kernel
theorem d_X12_useName_46 : decode prog_14_method_22_code 46 = .ok (.aload_n 0, 1) := by decide +kernel
theorem d_X12_useName_47 : decode prog_14_method_22_code 47 = .ok (.getfield 107, 3) := by decide +kernel
theorem d_X12_useName_50 : decode prog_14_method_22_code 50 = .ok (.iload_n 1, 1) := by decide +kernel
theorem d_X12_useName_51 : decode prog_14_method_22_code 51 = .ok (.aload_n 0, 1) := by decide +kernel
theorem d_X12_useName_52 : decode prog_14_method_22_code 52 = .ok (.getfield 225, 3) := by decide +kernel
theorem d_X12_useName_55 : decode prog_14_method_22_code 55 = .ok (.lastore, 1) := by decide +kernel
theorem d_X12_useName_56 : decode prog_14_method_22_code 56 = .ok (.aload_n 0, 1) := by decide +kernel
theorem d_X12_useName_57 : decode prog_14_method_22_code 57 = .ok (.getfield 110, 3) := by decide +kernel
theorem d_X12_useName_60 : decode prog_14_method_22_code 60 = .ok (.iload_n 1, 1) := by decide +kernel
theorem d_X12_useName_61 : decode prog_14_method_22_code 61 = .ok (.iconst 0, 1) := by decide +kernel
theorem d_X12_useName_62 : decode prog_14_method_22_code 62 = .ok (.iastore, 1) := by decide +kernel
theorem d_X12_useName_63 : decode prog_14_method_22_code 63 = .ok (.aload_n 0, 1) := by decide +kernel
theorem d_X12_useName_64 : decode prog_14_method_22_code 64 = .ok (.dup, 1) := by decide +kernel
theorem d_X12_useName_65 : decode prog_14_method_22_code 65 = .ok (.getfield 267, 3) := by decide +kernel
theorem d_X12_useName_68 : decode prog_14_method_22_code 68 = .ok (.iconst 1, 1) := by decide +kernel
theorem d_X12_useName_69 : decode prog_14_method_22_code 69 = .ok (.iadd, 1) := by decide +kernel
theorem d_X12_useName_70 : decode prog_14_method_22_code 70 = .ok (.putfield 267, 3) := by decide +kernel
theorem d_X12_useName_73 : decode prog_14_method_22_code 73 = .ok (.aload_n 0, 1) := by decide +kernel
theorem d_X12_useName_74 : decode prog_14_method_22_code 74 = .ok (.getfield 110, 3) := by decide +kernel
theorem d_X12_useName_77 : decode prog_14_method_22_code 77 = .ok (.iload_n 1, 1) := by decide +kernel
theorem d_X12_useName_78 : decode prog_14_method_22_code 78 = .ok (.iaload, 1) := by decide +kernel
theorem d_X12_useName_79 : decode prog_14_method_22_code 79 = .ok (.iconst 2, 1) := by decide +kernel
theorem d_X12_useName_80 : decode prog_14_method_22_code 80 = .ok (.if_icmp .ge 20, 3) := by decide +kernel
theorem d_X12_useName_83 : decode prog_14_method_22_code 83 = .ok (.sipush 1000, 3) := by decide +kernel
theorem d_X12_useName_86 : decode prog_14_method_22_code 86 = .ok (.iconst 2, 1) := by decide +kernel
theorem d_X12_useName_87 : decode prog_14_method_22_code 87 = .ok (.iload_n 1, 1) := by decide +kernel
theorem d_X12_useName_88 : decode prog_14_method_22_code 88 = .ok (.imul, 1) := by decide +kernel
theorem d_X12_useName_89 : decode prog_14_method_22_code 89 = .ok (.iadd, 1) := by decide +kernel
theorem d_X12_useName_90 : decode prog_14_method_22_code 90 = .ok (.aload_n 0, 1) := by decide +kernel
theorem d_X12_useName_91 : decode prog_14_method_22_code 91 = .ok (.getfield 110, 3) := by decide +kernel
theorem d_X12_useName_94 : decode prog_14_method_22_code 94 = .ok (.iload_n 1, 1) := by decide +kernel
theorem d_X12_useName_95 : decode prog_14_method_22_code 95 = .ok (.iaload, 1) := by decide +kernel
theorem d_X12_useName_96 : decode prog_14_method_22_code 96 = .ok (.iadd, 1) := by decide +kernel
theorem d_X12_useName_97 : decode prog_14_method_22_code 97 = .ok (.goto 6, 3) := by decide +kernel
theorem d_X12_useName_100 : decode prog_14_method_22_code 100 = .ok (.sipush 1210, 3) := by decide +kernel
theorem d_X12_useName_103 : decode prog_14_method_22_code 103 = .ok (.istore_n 2, 1) := by decide +kernel
theorem d_X12_useName_104 : decode prog_14_method_22_code 104 = .ok (.aload_n 0, 1) := by decide +kernel
theorem d_X12_useName_105 : decode prog_14_method_22_code 105 = .ok (.getfield 110, 3) := by decide +kernel
theorem d_X12_useName_108 : decode prog_14_method_22_code 108 = .ok (.iload_n 1, 1) := by decide +kernel
theorem d_X12_useName_109 : decode prog_14_method_22_code 109 = .ok (.dup2, 1) := by decide +kernel
theorem d_X12_useName_110 : decode prog_14_method_22_code 110 = .ok (.iaload, 1) := by decide +kernel
theorem d_X12_useName_111 : decode prog_14_method_22_code 111 = .ok (.iconst 1, 1) := by decide +kernel
theorem d_X12_useName_112 : decode prog_14_method_22_code 112 = .ok (.iadd, 1) := by decide +kernel
theorem d_X12_useName_113 : decode prog_14_method_22_code 113 = .ok (.iastore, 1) := by decide +kernel
theorem d_X12_useName_114 : decode prog_14_method_22_code 114 = .ok (.iload_n 2, 1) := by decide +kernel
theorem d_X12_useName_115 : decode prog_14_method_22_code 115 = .ok (.ireturn, 1) := by decide +kernel
theorem d_X12_readTerm_0 : decode prog_14_method_23_code 0 = .ok (.iconst 0, 1) := by decide +kernel
theorem d_X12_readTerm_1 : decode prog_14_method_23_code 1 = .ok (.istore_n 1, 1) := by decide +kernel
theorem d_X12_readTerm_2 : decode prog_14_method_23_code 2 = .ok (.iconst 0, 1) := by decide +kernel
theorem d_X12_readTerm_3 : decode prog_14_method_23_code 3 = .ok (.istore_n 2, 1) := by decide +kernel
theorem d_X12_readTerm_4 : decode prog_14_method_23_code 4 = .ok (.aload_n 0, 1) := by decide +kernel
theorem d_X12_readTerm_5 : decode prog_14_method_23_code 5 = .ok (.getfield 205, 3) := by decide +kernel
theorem d_X12_readTerm_8 : decode prog_14_method_23_code 8 = .ok (.iconst 1, 1) := by decide +kernel
theorem d_X12_readTerm_9 : decode prog_14_method_23_code 9 = .ok (.if_icmp .ne 45, 3) := by decide +kernel
theorem d_X12_readTerm_12 : decode prog_14_method_23_code 12 = .ok (.aload_n 0, 1) := by decide +kernel
theorem d_X12_readTerm_13 : decode prog_14_method_23_code 13 = .ok (.iload_n 1, 1) := by decide +kernel
theorem d_X12_readTerm_14 : decode prog_14_method_23_code 14 = .ok (.bipush 12, 2) := by decide +kernel
theorem d_X12_readTerm_16 : decode prog_14_method_23_code 16 = .ok (.if_icmp .ne 7, 3) := by decide +kernel
theorem d_X12_readTerm_19 : decode prog_14_method_23_code 19 = .ok (.iconst (-1), 1) := by decide +kernel
theorem d_X12_readTerm_20 : decode prog_14_method_23_code 20 = .ok (.goto 7, 3) := by decide +kernel
theorem d_X12_readTerm_23 : decode prog_14_method_23_code 23 = .ok (.aload_n 0, 1) := by decide +kernel
theorem d_X12_readTerm_24 : decode prog_14_method_23_code 24 = .ok (.invokevirtual 270, 3) := by decide +kernel
theorem d_X12_readTerm_27 : decode prog_14_method_23_code 27 = .ok (.putfield 274, 3) := by decide +kernel
theorem d_X12_readTerm_30 : decode prog_14_method_23_code 30 = .ok (.aload_n 0, 1) := by decide +kernel
theorem d_X12_readTerm_31 : decode prog_14_method_23_code 31 = .ok (.getfield 274, 3) := by decide +kernel
theorem d_X12_readTerm_34 : decode prog_14_method_23_code 34 = .ok (.ifCond .ge 13, 3) := by decide +kernel
theorem d_X12_readTerm_37 : decode prog_14_method_23_code 37 = .ok (.aload_n 0, 1) := by decide +kernel
theorem d_X12_readTerm_38 : decode prog_14_method_23_code 38 = .ok (.iconst 4, 1) := by decide +kernel
theorem d_X12_readTerm_39 : decode prog_14_method_23_code 39 = .ok (.aload_n 0, 1) := by decide +kernel
theorem d_X12_readTerm_40 : decode prog_14_method_23_code 40 = .ok (.getfield 202, 3) := by decide +kernel
theorem d_X12_readTerm_43 : decode prog_14_method_23_code 43 = .ok (.invokevirtual 234, 3) := by decide +kernel
theorem d_X12_readTerm_46 : decode prog_14_method_23_code 46 = .ok (.ireturn, 1) := by decide +kernel
theorem d_X12_readTerm_47 : decode prog_14_method_23_code 47 = .ok (.aload_n 0, 1) := by decide +kernel
theorem d_X12_readTerm_48 : decode prog_14_method_23_code 48 = .ok (.invokevirtual 245, 3) := by decide +kernel
theorem d_X12_readTerm_51 : decode prog_14_method_23_code 51 = .ok (.goto 183, 3) := by decide +kernel
theorem d_X12_readTerm_54 : decode prog_14_method_23_code 54 = .ok (.aload_n 0, 1) := by decide +kernel
theorem d_X12_readTerm_55 : decode prog_14_method_23_code 55 = .ok (.getfield 205, 3) := by decide +kernel
theorem d_X12_readTerm_58 : decode prog_14_method_23_code 58 = .ok (.iconst 2, 1) := by decide +kernel
theorem d_X12_readTerm_59 : decode prog_14_method_23_code 59 = .ok (.if_icmp .ne 170, 3) := by decide +kernel
theorem d_X12_readTerm_62 : decode prog_14_method_23_code 62 = .ok (.aload_n 0, 1) := by decide +kernel
theorem d_X12_readTerm_63 : decode prog_14_method_23_code 63 = .ok (.aload_n 0, 1) := by decide +kernel
theorem d_X12_readTerm_64 : decode prog_14_method_23_code 64 = .ok (.getfield 225, 3) := by decide +kernel
theorem d_X12_readTerm_67 : decode prog_14_method_23_code 67 = .ok (.invokevirtual 251, 3) := by decide +kernel
theorem d_X12_readTerm_70 : decode prog_14_method_23_code 70 = .ok (.istore_n 3, 1) := by decide +kernel
theorem d_X12_readTerm_71 : decode prog_14_method_23_code 71 = .ok (.iload_n 3, 1) := by decide +kernel
theorem d_X12_readTerm_72 : decode prog_14_method_23_code 72 = .ok (.ifCond .ge 13, 3) := by decide +kernel
theorem d_X12_readTerm_75 : decode prog_14_method_23_code 75 = .ok (.aload_n 0, 1) := by decide +kernel
theorem d_X12_readTerm_76 : decode prog_14_method_23_code 76 = .ok (.iconst 3, 1) := by decide +kernel
theorem d_X12_readTerm_77 : decode prog_14_method_23_code 77 = .ok (.aload_n 0, 1) := by decide +kernel
theorem d_X12_readTerm_78 : decode prog_14_method_23_code 78 = .ok (.getfield 202, 3) := by decide +kernel
theorem d_X12_readTerm_81 : decode prog_14_method_23_code 81 = .ok (.invokevirtual 234, 3) := by decide +kernel
theorem d_X12_readTerm_84 : decode prog_14_method_23_code 84 = .ok (.ireturn, 1) := by decide +kernel
theorem d_X12_readTerm_85 : decode prog_14_method_23_code 85 = .ok (.iload_n 1, 1) := by decide +kernel
theorem d_X12_readTerm_86 : decode prog_14_method_23_code 86 = .ok (.bipush 12, 2) := by decide +kernel
theorem d_X12_readTerm_88 : decode prog_14_method_23_code 88 = .ok (.if_icmp .eq 14, 3) := by decide +kernel
theorem d_X12_readTerm_91 : decode prog_14_method_23_code 91 = .ok (.aload_n 0, 1) := by decide +kernel
theorem d_X12_readTerm_92 : decode prog_14_method_23_code 92 = .ok (.getfield 261, 3) := by decide +kernel
theorem d_X12_readTerm_95 : decode prog_14_method_23_code 95 = .ok (.aload_n 0, 1) := by decide +kernel
theorem d_X12_readTerm_96 : decode prog_14_method_23_code 96 = .ok (.getfield 264, 3) := by decide +kernel
theorem d_X12_readTerm_99 : decode prog_14_method_23_code 99 = .ok (.if_icmp .ne 13, 3) := by decide +kernel
theorem d_X12_readTerm_102 : decode prog_14_method_23_code 102 = .ok (.aload_n 0, 1) := by decide +kernel
theorem d_X12_readTerm_103 : decode prog_14_method_23_code 103 = .ok (.iconst 4, 1) := by decide +kernel
theorem d_X12_readTerm_104 : decode prog_14_method_23_code 104 = .ok (.aload_n 0, 1) := by decide +kernel
theorem d_X12_readTerm_105 : decode prog_14_method_23_code 105 = .ok (.getfield 202, 3) := by decide +kernel
theorem d_X12_readTerm_108 : decode prog_14_method_23_code 108 = .ok (.invokevirtual 234, 3) := by decide +kernel
theorem d_X12_readTerm_111 : decode prog_14_method_23_code 111 = .ok (.ireturn, 1) := by decide +kernel
theorem d_X12_readTerm_112 : decode prog_14_method_23_code 112 = .ok (.aload_n 0, 1) := by decide +kernel
theorem d_X12_readTerm_113 : decode prog_14_method_23_code 113 = .ok (.getfield 98, 3) := by decide +kernel
theorem d_X12_readTerm_116 : decode prog_14_method_23_code 116 = .ok (.aload_n 0, 1) := by decide +kernel
theorem d_X12_readTerm_117 : decode prog_14_method_23_code 117 = .ok (.getfield 261, 3) := by decide +kernel
theorem d_X12_readTerm_120 : decode prog_14_method_23_code 120 = .ok (.iload_n 3, 1) := by decide +kernel
theorem d_X12_readTerm_121 : decode prog_14_method_23_code 121 = .ok (.iastore, 1) := by decide +kernel
theorem d_X12_readTerm_122 : decode prog_14_method_23_code 122 = .ok (.aload_n 0, 1) := by decide +kernel
theorem d_X12_readTerm_123 : decode prog_14_method_23_code 123 = .ok (.getfield 101, 3) := by decide +kernel
theorem d_X12_readTerm_126 : decode prog_14_method_23_code 126 = .ok (.aload_n 0, 1) := by decide +kernel
theorem d_X12_readTerm_127 : decode prog_14_method_23_code 127 = .ok (.getfield 261, 3) := by decide +kernel
theorem d_X12_readTerm_130 : decode prog_14_method_23_code 130 = .ok (.aload_n 0, 1) := by decide +kernel
theorem d_X12_readTerm_131 : decode prog_14_method_23_code 131 = .ok (.getfield 202, 3) := by decide +kernel
theorem d_X12_readTerm_134 : decode prog_14_method_23_code 134 = .ok (.iastore, 1) := by decide +kernel
theorem d_X12_readTerm_135 : decode prog_14_method_23_code 135 = .ok (.aload_n 0, 1) := by decide +kernel
theorem d_X12_readTerm_136 : decode prog_14_method_23_code 136 = .ok (.iconst 5, 1) := by decide +kernel
theorem d_X12_readTerm_137 : decode prog_14_method_23_code 137 = .ok (.aload_n 0, 1) := by decide +kernel
theorem d_X12_readTerm_138 : decode prog_14_method_23_code 138 = .ok (.getfield 261, 3) := by decide +kernel
theorem d_X12_readTerm_141 : decode prog_14_method_23_code 141 = .ok (.imul, 1) := by decide +kernel
theorem d_X12_readTerm_142 : decode prog_14_method_23_code 142 = .ok (.putfield 274, 3) := by decide +kernel
theorem d_X12_readTerm_145 : decode prog_14_method_23_code 145 = .ok (.aload_n 0, 1) := by decide +kernel
theorem d_X12_readTerm_146 : decode prog_14_method_23_code 146 = .ok (.dup, 1) := by decide +kernel
theorem d_X12_readTerm_147 : decode prog_14_method_23_code 147 = .ok (.getfield 261, 3) := by decide +kernel
theorem d_X12_readTerm_150 : decode prog_14_method_23_code 150 = .ok (.iconst 1, 1) := by decide +kernel
theorem d_X12_readTerm_151 : decode prog_14_method_23_code 151 = .ok (.iadd, 1) := by decide +kernel
theorem d_X12_readTerm_152 : decode prog_14_method_23_code 152 = .ok (.putfield 261, 3) := by decide +kernel
theorem d_X12_readTerm_155 : decode prog_14_method_23_code 155 = .ok (.aload_n 0, 1) := by decide +kernel
theorem d_X12_readTerm_156 : decode prog_14_method_23_code 156 = .ok (.invokevirtual 245, 3) := by decide +kernel
theorem d_X12_readTerm_159 : decode prog_14_method_23_code 159 = .ok (.aload_n 0, 1) := by decide +kernel
theorem d_X12_readTerm_160 : decode prog_14_method_23_code 160 = .ok (.bipush 40, 2) := by decide +kernel
theorem d_X12_readTerm_162 : decode prog_14_method_23_code 162 = .ok (.invokevirtual 238, 3) := by decide +kernel
theorem d_X12_readTerm_165 : decode prog_14_method_23_code 165 = .ok (.istore_n 2, 1) := by decide +kernel
theorem d_X12_readTerm_166 : decode prog_14_method_23_code 166 = .ok (.iload_n 2, 1) := by decide +kernel
theorem d_X12_readTerm_167 : decode prog_14_method_23_code 167 = .ok (.ifCond .eq 32, 3) := by decide +kernel
theorem d_X12_readTerm_170 : decode prog_14_method_23_code 170 = .ok (.aload_n 0, 1) := by decide +kernel
theorem d_X12_readTerm_171 : decode prog_14_method_23_code 171 = .ok (.getfield 116, 3) := by decide +kernel
theorem d_X12_readTerm_174 : decode prog_14_method_23_code 174 = .ok (.iload_n 1, 1) := by decide +kernel
theorem d_X12_readTerm_175 : decode prog_14_method_23_code 175 = .ok (.aload_n 0, 1) := by decide +kernel
theorem d_X12_readTerm_176 : decode prog_14_method_23_code 176 = .ok (.getfield 261, 3) := by decide +kernel
theorem d_X12_readTerm_179 : decode prog_14_method_23_code 179 = .ok (.iconst 1, 1) := by decide +kernel
theorem d_X12_readTerm_180 : decode prog_14_method_23_code 180 = .ok (.isub, 1) := by decide +kernel
theorem d_X12_readTerm_181 : decode prog_14_method_23_code 181 = .ok (.iastore, 1) := by decide +kernel
theorem d_X12_readTerm_182 : decode prog_14_method_23_code 182 = .ok (.aload_n 0, 1) := by decide +kernel
theorem d_X12_readTerm_183 : decode prog_14_method_23_code 183 = .ok (.getfield 119, 3) := by decide +kernel
theorem d_X12_readTerm_186 : decode prog_14_method_23_code 186 = .ok (.iload_n 1, 1) := by decide +kernel
theorem d_X12_readTerm_187 : decode prog_14_method_23_code 187 = .ok (.iconst 1, 1) := by decide +kernel
theorem d_X12_readTerm_188 : decode prog_14_method_23_code 188 = .ok (.iastore, 1) := by decide +kernel
theorem d_X12_readTerm_189 : decode prog_14_method_23_code 189 = .ok (.iinc 1 1, 3) := by decide +kernel
theorem d_X12_readTerm_192 : decode prog_14_method_23_code 192 = .ok (.aload_n 0, 1) := by decide +kernel
theorem d_X12_readTerm_193 : decode prog_14_method_23_code 193 = .ok (.invokevirtual 245, 3) := by decide +kernel
theorem d_X12_readTerm_196 : decode prog_14_method_23_code 196 = .ok (.goto 30, 3) := by decide +kernel
theorem d_X12_readTerm_199 : decode prog_14_method_23_code 199 = .ok (.aload_n 0, 1) := by decide +kernel
theorem d_X12_readTerm_200 : decode prog_14_method_23_code 200 = .ok (.getfield 71, 3) := by decide +kernel
theorem d_X12_readTerm_203 : decode prog_14_method_23_code 203 = .ok (.iload_n 3, 1) := by decide +kernel
theorem d_X12_readTerm_204 : decode prog_14_method_23_code 204 = .ok (.iaload, 1) := by decide +kernel
theorem d_X12_readTerm_205 : decode prog_14_method_23_code 205 = .ok (.iconst 1, 1) := by decide +kernel
theorem d_X12_readTerm_206 : decode prog_14_method_23_code 206 = .ok (.if_icmp .eq 20, 3) := by decide +kernel
theorem d_X12_readTerm_209 : decode prog_14_method_23_code 209 = .ok (.aload_n 0, 1) := by decide +kernel
theorem d_X12_readTerm_210 : decode prog_14_method_23_code 210 = .ok (.iconst 5, 1) := by decide +kernel
theorem d_X12_readTerm_211 : decode prog_14_method_23_code 211 = .ok (.aload_n 0, 1) := by decide +kernel
theorem d_X12_readTerm_212 : decode prog_14_method_23_code 212 = .ok (.getfield 101, 3) := by decide +kernel
theorem d_X12_readTerm_215 : decode prog_14_method_23_code 215 = .ok (.aload_n 0, 1) := by decide +kernel
theorem d_X12_readTerm_216 : decode prog_14_method_23_code 216 = .ok (.getfield 261, 3) := by decide +kernel
theorem d_X12_readTerm_219 : decode prog_14_method_23_code 219 = .ok (.iconst 1, 1) := by decide +kernel
theorem d_X12_readTerm_220 : decode prog_14_method_23_code 220 = .ok (.isub, 1) := by decide +kernel
theorem d_X12_readTerm_221 : decode prog_14_method_23_code 221 = .ok (.iaload, 1) := by decide +kernel
theorem d_X12_readTerm_222 : decode prog_14_method_23_code 222 = .ok (.invokevirtual 234, 3) := by decide +kernel
theorem d_X12_readTerm_225 : decode prog_14_method_23_code 225 = .ok (.ireturn, 1) := by decide +kernel
theorem d_X12_readTerm_226 : decode prog_14_method_23_code 226 = .ok (.goto 8, 3) := by decide +kernel
theorem d_X12_readTerm_229 : decode prog_14_method_23_code 229 = .ok (.aload_n 0, 1) := by decide +kernel
theorem d_X12_readTerm_230 : decode prog_14_method_23_code 230 = .ok (.invokevirtual 241, 3) := by decide +kernel
theorem d_X12_readTerm_233 : decode prog_14_method_23_code 233 = .ok (.ireturn, 1) := by decide +kernel
theorem d_X12_readTerm_234 : decode prog_14_method_23_code 234 = .ok (.iload_n 2, 1) := by decide +kernel
theorem d_X12_readTerm_235 : decode prog_14_method_23_code 235 = .ok (.istore_n 3, 1) := by decide +kernel
theorem d_X12_readTerm_236 : decode prog_14_method_23_code 236 = .ok (.iload_n 3, 1) := by decide +kernel
theorem d_X12_readTerm_237 : decode prog_14_method_23_code 237 = .ok (.ifCond .ne 149, 3) := by decide +kernel
theorem d_X12_readTerm_240 : decode prog_14_method_23_code 240 = .ok (.iload_n 1, 1) := by decide +kernel
theorem d_X12_readTerm_241 : decode prog_14_method_23_code 241 = .ok (.ifCond .ne 5, 3) := by decide +kernel
theorem d_X12_readTerm_244 : decode prog_14_method_23_code 244 = .ok (.iconst 1, 1) := by decide +kernel
theorem d_X12_readTerm_245 : decode prog_14_method_23_code 245 = .ok (.ireturn, 1) := by decide +kernel
theorem d_X12_readTerm_246 : decode prog_14_method_23_code 246 = .ok (.aload_n 0, 1) := by decide +kernel
theorem d_X12_readTerm_247 : decode prog_14_method_23_code 247 = .ok (.getfield 116, 3) := by decide +kernel
theorem d_X12_readTerm_250 : decode prog_14_method_23_code 250 = .ok (.iload_n 1, 1) := by decide +kernel
theorem d_X12_readTerm_251 : decode prog_14_method_23_code 251 = .ok (.iconst 1, 1) := by decide +kernel
theorem d_X12_readTerm_252 : decode prog_14_method_23_code 252 = .ok (.isub, 1) := by decide +kernel
theorem d_X12_readTerm_253 : decode prog_14_method_23_code 253 = .ok (.iaload, 1) := by decide +kernel
theorem d_X12_readTerm_254 : decode prog_14_method_23_code 254 = .ok (.istore 4, 2) := by decide +kernel
theorem d_X12_readTerm_256 : decode prog_14_method_23_code 256 = .ok (.aload_n 0, 1) := by decide +kernel
theorem d_X12_readTerm_257 : decode prog_14_method_23_code 257 = .ok (.getfield 119, 3) := by decide +kernel
theorem d_X12_readTerm_260 : decode prog_14_method_23_code 260 = .ok (.iload_n 1, 1) := by decide +kernel
theorem d_X12_readTerm_261 : decode prog_14_method_23_code 261 = .ok (.iconst 1, 1) := by decide +kernel
theorem d_X12_readTerm_262 : decode prog_14_method_23_code 262 = .ok (.isub, 1) := by decide +kernel
theorem d_X12_readTerm_263 : decode prog_14_method_23_code 263 = .ok (.iaload, 1) := by decide +kernel
theorem d_X12_readTerm_264 : decode prog_14_method_23_code 264 = .ok (.istore 5, 2) := by decide +kernel
theorem d_X12_readTerm_266 : decode prog_14_method_23_code 266 = .ok (.aload_n 0, 1) := by decide +kernel
theorem d_X12_readTerm_267 : decode prog_14_method_23_code 267 = .ok (.getfield 71, 3) := by decide +kernel
theorem d_X12_readTerm_270 : decode prog_14_method_23_code 270 = .ok (.aload_n 0, 1) := by decide +kernel
theorem d_X12_readTerm_271 : decode prog_14_method_23_code 271 = .ok (.getfield 98, 3) := by decide +kernel
theorem d_X12_readTerm_274 : decode prog_14_method_23_code 274 = .ok (.iload 4, 2) := by decide +kernel
theorem d_X12_readTerm_276 : decode prog_14_method_23_code 276 = .ok (.iaload, 1) := by decide +kernel
theorem d_X12_readTerm_277 : decode prog_14_method_23_code 277 = .ok (.iaload, 1) := by decide +kernel
theorem d_X12_readTerm_278 : decode prog_14_method_23_code 278 = .ok (.istore 6, 2) := by decide +kernel
theorem d_X12_readTerm_280 : decode prog_14_method_23_code 280 = .ok (.iload 5, 2) := by decide +kernel
theorem d_X12_readTerm_282 : decode prog_14_method_23_code 282 = .ok (.iload 6, 2) := by decide +kernel
theorem d_X12_readTerm_284 : decode prog_14_method_23_code 284 = .ok (.if_icmp .ge 18, 3) := by decide +kernel
theorem d_X12_readTerm_287 : decode prog_14_method_23_code 287 = .ok (.aload_n 0, 1) := by decide +kernel
theorem d_X12_readTerm_288 : decode prog_14_method_23_code 288 = .ok (.iconst 5, 1) := by decide +kernel
theorem d_X12_readTerm_289 : decode prog_14_method_23_code 289 = .ok (.iload 4, 2) := by decide +kernel
theorem d_X12_readTerm_291 : decode prog_14_method_23_code 291 = .ok (.imul, 1) := by decide +kernel
theorem d_X12_readTerm_292 : decode prog_14_method_23_code 292 = .ok (.iload 5, 2) := by decide +kernel
theorem d_X12_readTerm_294 : decode prog_14_method_23_code 294 = .ok (.iadd, 1) := by decide +kernel
theorem d_X12_readTerm_295 : decode prog_14_method_23_code 295 = .ok (.aload_n 0, 1) := by decide +kernel
theorem d_X12_readTerm_296 : decode prog_14_method_23_code 296 = .ok (.getfield 274, 3) := by decide +kernel
theorem d_X12_readTerm_299 : decode prog_14_method_23_code 299 = .ok (.invokevirtual 277, 3) := by decide +kernel
theorem d_X12_readTerm_302 : decode prog_14_method_23_code 302 = .ok (.aload_n 0, 1) := by decide +kernel
theorem d_X12_readTerm_303 : decode prog_14_method_23_code 303 = .ok (.getfield 119, 3) := by decide +kernel
theorem d_X12_readTerm_306 : decode prog_14_method_23_code 306 = .ok (.iload_n 1, 1) := by decide +kernel
theorem d_X12_readTerm_307 : decode prog_14_method_23_code 307 = .ok (.iconst 1, 1) := by decide +kernel
theorem d_X12_readTerm_308 : decode prog_14_method_23_code 308 = .ok (.isub, 1) := by decide +kernel
theorem d_X12_readTerm_309 : decode prog_14_method_23_code 309 = .ok (.dup2, 1) := by decide +kernel
theorem d_X12_readTerm_310 : decode prog_14_method_23_code 310 = .ok (.iaload, 1) := by decide +kernel
theorem d_X12_readTerm_311 : decode prog_14_method_23_code 311 = .ok (.iconst 1, 1) := by decide +kernel
theorem d_X12_readTerm_312 : decode prog_14_method_23_code 312 = .ok (.iadd, 1) := by decide +kernel
theorem d_X12_readTerm_313 : decode prog_14_method_23_code 313 = .ok (.iastore, 1) := by decide +kernel
theorem d_X12_readTerm_314 : decode prog_14_method_23_code 314 = .ok (.aload_n 0, 1) := by decide +kernel
theorem d_X12_readTerm_315 : decode prog_14_method_23_code 315 = .ok (.bipush 44, 2) := by decide +kernel
theorem d_X12_readTerm_317 : decode prog_14_method_23_code 317 = .ok (.invokevirtual 238, 3) := by decide +kernel
theorem d_X12_readTerm_320 : decode prog_14_method_23_code 320 = .ok (.ifCond .eq 8, 3) := by decide +kernel
theorem d_X12_readTerm_323 : decode prog_14_method_23_code 323 = .ok (.iconst 1, 1) := by decide +kernel
theorem d_X12_readTerm_324 : decode prog_14_method_23_code 324 = .ok (.istore_n 3, 1) := by decide +kernel
theorem d_X12_readTerm_325 : decode prog_14_method_23_code 325 = .ok (.goto 54, 3) := by decide +kernel
theorem d_X12_readTerm_328 : decode prog_14_method_23_code 328 = .ok (.aload_n 0, 1) := by decide +kernel
theorem d_X12_readTerm_329 : decode prog_14_method_23_code 329 = .ok (.bipush 41, 2) := by decide +kernel
theorem d_X12_readTerm_331 : decode prog_14_method_23_code 331 = .ok (.invokevirtual 238, 3) := by decide +kernel
theorem d_X12_readTerm_334 : decode prog_14_method_23_code 334 = .ok (.ifCond .ne 8, 3) := by decide +kernel
theorem d_X12_readTerm_337 : decode prog_14_method_23_code 337 = .ok (.aload_n 0, 1) := by decide +kernel
theorem d_X12_readTerm_338 : decode prog_14_method_23_code 338 = .ok (.invokevirtual 241, 3) := by decide +kernel
theorem d_X12_readTerm_341 : decode prog_14_method_23_code 341 = .ok (.ireturn, 1) := by decide +kernel
theorem d_X12_readTerm_342 : decode prog_14_method_23_code 342 = .ok (.aload_n 0, 1) := by decide +kernel
theorem d_X12_readTerm_343 : decode prog_14_method_23_code 343 = .ok (.getfield 119, 3) := by decide +kernel
theorem d_X12_readTerm_346 : decode prog_14_method_23_code 346 = .ok (.iload_n 1, 1) := by decide +kernel
theorem d_X12_readTerm_347 : decode prog_14_method_23_code 347 = .ok (.iconst 1, 1) := by decide +kernel
theorem d_X12_readTerm_348 : decode prog_14_method_23_code 348 = .ok (.isub, 1) := by decide +kernel
theorem d_X12_readTerm_349 : decode prog_14_method_23_code 349 = .ok (.iaload, 1) := by decide +kernel
theorem d_X12_readTerm_350 : decode prog_14_method_23_code 350 = .ok (.iload 6, 2) := by decide +kernel
theorem d_X12_readTerm_352 : decode prog_14_method_23_code 352 = .ok (.if_icmp .eq 16, 3) := by decide +kernel
theorem d_X12_readTerm_355 : decode prog_14_method_23_code 355 = .ok (.aload_n 0, 1) := by decide +kernel
theorem d_X12_readTerm_356 : decode prog_14_method_23_code 356 = .ok (.iconst 5, 1) := by decide +kernel
theorem d_X12_readTerm_357 : decode prog_14_method_23_code 357 = .ok (.aload_n 0, 1) := by decide +kernel
theorem d_X12_readTerm_358 : decode prog_14_method_23_code 358 = .ok (.getfield 101, 3) := by decide +kernel
theorem d_X12_readTerm_361 : decode prog_14_method_23_code 361 = .ok (.iload 4, 2) := by decide +kernel
theorem d_X12_readTerm_363 : decode prog_14_method_23_code 363 = .ok (.iaload, 1) := by decide +kernel
theorem d_X12_readTerm_364 : decode prog_14_method_23_code 364 = .ok (.invokevirtual 234, 3) := by decide +kernel
theorem d_X12_readTerm_367 : decode prog_14_method_23_code 367 = .ok (.ireturn, 1) := by decide +kernel
theorem d_X12_readTerm_368 : decode prog_14_method_23_code 368 = .ok (.aload_n 0, 1) := by decide +kernel
theorem d_X12_readTerm_369 : decode prog_14_method_23_code 369 = .ok (.iconst 5, 1) := by decide +kernel
theorem d_X12_readTerm_370 : decode prog_14_method_23_code 370 = .ok (.iload 4, 2) := by decide +kernel
theorem d_X12_readTerm_372 : decode prog_14_method_23_code 372 = .ok (.imul, 1) := by decide +kernel
theorem d_X12_readTerm_373 : decode prog_14_method_23_code 373 = .ok (.putfield 274, 3) := by decide +kernel
theorem d_X12_readTerm_376 : decode prog_14_method_23_code 376 = .ok (.iinc 1 (-1), 3) := by decide +kernel
theorem d_X12_readTerm_379 : decode prog_14_method_23_code 379 = .ok (.aload_n 0, 1) := by decide +kernel
theorem d_X12_readTerm_380 : decode prog_14_method_23_code 380 = .ok (.invokevirtual 245, 3) := by decide +kernel
theorem d_X12_readTerm_383 : decode prog_14_method_23_code 383 = .ok (.goto (-147), 3) := by decide +kernel
theorem d_X12_readTerm_386 : decode prog_14_method_23_code 386 = .ok (.goto (-384), 3) := by decide +kernel
theorem d_X12_readLinks_0 : decode prog_14_method_24_code 0 = .ok (.iconst 1, 1) := by decide +kernel
theorem d_X12_readLinks_1 : decode prog_14_method_24_code 1 = .ok (.istore_n 1, 1) := by decide +kernel
theorem d_X12_readLinks_2 : decode prog_14_method_24_code 2 = .ok (.iload_n 1, 1) := by decide +kernel
theorem d_X12_readLinks_3 : decode prog_14_method_24_code 3 = .ok (.ifCond .eq 62, 3) := by decide +kernel
theorem d_X12_readLinks_6 : decode prog_14_method_24_code 6 = .ok (.aload_n 0, 1) := by decide +kernel
theorem d_X12_readLinks_7 : decode prog_14_method_24_code 7 = .ok (.invokevirtual 281, 3) := by decide +kernel
theorem d_X12_readLinks_10 : decode prog_14_method_24_code 10 = .ok (.ifCond .ne 5, 3) := by decide +kernel
theorem d_X12_readLinks_13 : decode prog_14_method_24_code 13 = .ok (.iconst 0, 1) := by decide +kernel
theorem d_X12_readLinks_14 : decode prog_14_method_24_code 14 = .ok (.ireturn, 1) := by decide +kernel
theorem d_X12_readLinks_15 : decode prog_14_method_24_code 15 = .ok (.aload_n 0, 1) := by decide +kernel
theorem d_X12_readLinks_16 : decode prog_14_method_24_code 16 = .ok (.getfield 274, 3) := by decide +kernel
theorem d_X12_readLinks_19 : decode prog_14_method_24_code 19 = .ok (.istore_n 2, 1) := by decide +kernel
theorem d_X12_readLinks_20 : decode prog_14_method_24_code 20 = .ok (.aload_n 0, 1) := by decide +kernel
theorem d_X12_readLinks_21 : decode prog_14_method_24_code 21 = .ok (.bipush 61, 2) := by decide +kernel
theorem d_X12_readLinks_23 : decode prog_14_method_24_code 23 = .ok (.invokevirtual 258, 3) := by decide +kernel
theorem d_X12_readLinks_26 : decode prog_14_method_24_code 26 = .ok (.ifCond .eq 10, 3) := by decide +kernel
theorem d_X12_readLinks_29 : decode prog_14_method_24_code 29 = .ok (.aload_n 0, 1) := by decide +kernel
theorem d_X12_readLinks_30 : decode prog_14_method_24_code 30 = .ok (.invokevirtual 281, 3) := by decide +kernel
theorem d_X12_readLinks_33 : decode prog_14_method_24_code 33 = .ok (.ifCond .ne 5, 3) := by decide +kernel
theorem d_X12_readLinks_36 : decode prog_14_method_24_code 36 = .ok (.iconst 0, 1) := by decide +kernel
theorem d_X12_readLinks_37 : decode prog_14_method_24_code 37 = .ok (.ireturn, 1) := by decide +kernel
theorem d_X12_readLinks_38 : decode prog_14_method_24_code 38 = .ok (.aload_n 0, 1) := by decide +kernel
theorem d_X12_readLinks_39 : decode prog_14_method_24_code 39 = .ok (.iload_n 2, 1) := by decide +kernel
theorem d_X12_readLinks_40 : decode prog_14_method_24_code 40 = .ok (.aload_n 0, 1) := by decide +kernel
theorem d_X12_readLinks_41 : decode prog_14_method_24_code 41 = .ok (.getfield 274, 3) := by decide +kernel
theorem d_X12_readLinks_44 : decode prog_14_method_24_code 44 = .ok (.invokevirtual 277, 3) := by decide +kernel
theorem d_X12_readLinks_47 : decode prog_14_method_24_code 47 = .ok (.aload_n 0, 1) := by decide +kernel
theorem d_X12_readLinks_48 : decode prog_14_method_24_code 48 = .ok (.bipush 44, 2) := by decide +kernel
theorem d_X12_readLinks_50 : decode prog_14_method_24_code 50 = .ok (.invokevirtual 238, 3) := by decide +kernel
theorem d_X12_readLinks_53 : decode prog_14_method_24_code 53 = .ok (.istore_n 1, 1) := by decide +kernel
theorem d_X12_readLinks_54 : decode prog_14_method_24_code 54 = .ok (.iload_n 1, 1) := by decide +kernel
theorem d_X12_readLinks_55 : decode prog_14_method_24_code 55 = .ok (.ifCond .eq 7, 3) := by decide +kernel
theorem d_X12_readLinks_58 : decode prog_14_method_24_code 58 = .ok (.aload_n 0, 1) := by decide +kernel
theorem d_X12_readLinks_59 : decode prog_14_method_24_code 59 = .ok (.invokevirtual 245, 3) := by decide +kernel
theorem d_X12_readLinks_62 : decode prog_14_method_24_code 62 = .ok (.goto (-60), 3) := by decide +kernel
theorem d_X12_readLinks_65 : decode prog_14_method_24_code 65 = .ok (.iconst 1, 1) := by decide +kernel
theorem d_X12_readLinks_66 : decode prog_14_method_24_code 66 = .ok (.ireturn, 1) := by decide +kernel
theorem d_X12_sheetRings_0 : decode prog_14_method_27_code 0 = .ok (.iconst 0, 1) := by decide +kernel
theorem d_X12_sheetRings_1 : decode prog_14_method_27_code 1 = .ok (.istore_n 1, 1) := by decide +kernel
theorem d_X12_sheetRings_2 : decode prog_14_method_27_code 2 = .ok (.sipush 1000, 3) := by decide +kernel
theorem d_X12_sheetRings_5 : decode prog_14_method_27_code 5 = .ok (.istore_n 2, 1) := by decide +kernel
theorem d_X12_sheetRings_6 : decode prog_14_method_27_code 6 = .ok (.iload_n 2, 1) := by decide +kernel
theorem d_X12_sheetRings_7 : decode prog_14_method_27_code 7 = .ok (.sipush 1000, 3) := by decide +kernel
theorem d_X12_sheetRings_10 : decode prog_14_method_27_code 10 = .ok (.iconst 2, 1) := by decide +kernel
theorem d_X12_sheetRings_11 : decode prog_14_method_27_code 11 = .ok (.aload_n 0, 1) := by decide +kernel
theorem d_X12_sheetRings_12 : decode prog_14_method_27_code 12 = .ok (.getfield 267, 3) := by decide +kernel
theorem d_X12_sheetRings_15 : decode prog_14_method_27_code 15 = .ok (.imul, 1) := by decide +kernel
theorem d_X12_sheetRings_16 : decode prog_14_method_27_code 16 = .ok (.iadd, 1) := by decide +kernel
theorem d_X12_sheetRings_17 : decode prog_14_method_27_code 17 = .ok (.if_icmp .ge 99, 3) := by decide +kernel
theorem d_X12_sheetRings_20 : decode prog_14_method_27_code 20 = .ok (.aload_n 0, 1) := by decide +kernel
theorem d_X12_sheetRings_21 : decode prog_14_method_27_code 21 = .ok (.getfield 122, 3) := by decide +kernel
theorem d_X12_sheetRings_24 : decode prog_14_method_27_code 24 = .ok (.iload_n 2, 1) := by decide +kernel
theorem d_X12_sheetRings_25 : decode prog_14_method_27_code 25 = .ok (.baload, 1) := by decide +kernel
theorem d_X12_sheetRings_26 : decode prog_14_method_27_code 26 = .ok (.ifCond .ne 84, 3) := by decide +kernel
theorem d_X12_sheetRings_29 : decode prog_14_method_27_code 29 = .ok (.aload_n 0, 1) := by decide +kernel
theorem d_X12_sheetRings_30 : decode prog_14_method_27_code 30 = .ok (.getfield 110, 3) := by decide +kernel
theorem d_X12_sheetRings_33 : decode prog_14_method_27_code 33 = .ok (.iload_n 2, 1) := by decide +kernel
theorem d_X12_sheetRings_34 : decode prog_14_method_27_code 34 = .ok (.sipush 1000, 3) := by decide +kernel
theorem d_X12_sheetRings_37 : decode prog_14_method_27_code 37 = .ok (.isub, 1) := by decide +kernel
theorem d_X12_sheetRings_38 : decode prog_14_method_27_code 38 = .ok (.iconst 2, 1) := by decide +kernel
theorem d_X12_sheetRings_39 : decode prog_14_method_27_code 39 = .ok (.idiv, 1) := by decide +kernel
theorem d_X12_sheetRings_40 : decode prog_14_method_27_code 40 = .ok (.iaload, 1) := by decide +kernel
theorem d_X12_sheetRings_41 : decode prog_14_method_27_code 41 = .ok (.iconst 2, 1) := by decide +kernel
theorem d_X12_sheetRings_42 : decode prog_14_method_27_code 42 = .ok (.if_icmp .ne 68, 3) := by decide +kernel
theorem d_X12_sheetRings_45 : decode prog_14_method_27_code 45 = .ok (.iinc 1 1, 3) := by decide +kernel
theorem d_X12_sheetRings_48 : decode prog_14_method_27_code 48 = .ok (.iload_n 2, 1) := by decide +kernel
theorem d_X12_sheetRings_49 : decode prog_14_method_27_code 49 = .ok (.istore_n 3, 1) := by decide +kernel
theorem d_X12_sheetRings_50 : decode prog_14_method_27_code 50 = .ok (.aload_n 0, 1) := by decide +kernel
theorem d_X12_sheetRings_51 : decode prog_14_method_27_code 51 = .ok (.getfield 122, 3) := by decide +kernel
theorem d_X12_sheetRings_54 : decode prog_14_method_27_code 54 = .ok (.iload_n 3, 1) := by decide +kernel
theorem d_X12_sheetRings_55 : decode prog_14_method_27_code 55 = .ok (.baload, 1) := by decide +kernel
theorem d_X12_sheetRings_56 : decode prog_14_method_27_code 56 = .ok (.ifCond .ne 54, 3) := by decide +kernel
theorem d_X12_sheetRings_59 : decode prog_14_method_27_code 59 = .ok (.aload_n 0, 1) := by decide +kernel
theorem d_X12_sheetRings_60 : decode prog_14_method_27_code 60 = .ok (.getfield 122, 3) := by decide +kernel
theorem d_X12_sheetRings_63 : decode prog_14_method_27_code 63 = .ok (.iload_n 3, 1) := by decide +kernel
theorem d_X12_sheetRings_64 : decode prog_14_method_27_code 64 = .ok (.iconst 1, 1) := by decide +kernel
theorem d_X12_sheetRings_65 : decode prog_14_method_27_code 65 = .ok (.bastore, 1) := by decide +kernel
theorem d_X12_sheetRings_66 : decode prog_14_method_27_code 66 = .ok (.sipush 1000, 3) := by decide +kernel
theorem d_X12_sheetRings_69 : decode prog_14_method_27_code 69 = .ok (.iconst 2, 1) := by decide +kernel
theorem d_X12_sheetRings_70 : decode prog_14_method_27_code 70 = .ok (.iload_n 3, 1) := by decide +kernel
theorem d_X12_sheetRings_71 : decode prog_14_method_27_code 71 = .ok (.sipush 1000, 3) := by decide +kernel
theorem d_X12_sheetRings_74 : decode prog_14_method_27_code 74 = .ok (.isub, 1) := by decide +kernel
theorem d_X12_sheetRings_75 : decode prog_14_method_27_code 75 = .ok (.iconst 2, 1) := by decide +kernel
theorem d_X12_sheetRings_76 : decode prog_14_method_27_code 76 = .ok (.idiv, 1) := by decide +kernel
theorem d_X12_sheetRings_77 : decode prog_14_method_27_code 77 = .ok (.imul, 1) := by decide +kernel
theorem d_X12_sheetRings_78 : decode prog_14_method_27_code 78 = .ok (.iadd, 1) := by decide +kernel
theorem d_X12_sheetRings_79 : decode prog_14_method_27_code 79 = .ok (.iconst 1, 1) := by decide +kernel
theorem d_X12_sheetRings_80 : decode prog_14_method_27_code 80 = .ok (.iadd, 1) := by decide +kernel
theorem d_X12_sheetRings_81 : decode prog_14_method_27_code 81 = .ok (.iload_n 3, 1) := by decide +kernel
theorem d_X12_sheetRings_82 : decode prog_14_method_27_code 82 = .ok (.sipush 1000, 3) := by decide +kernel
theorem d_X12_sheetRings_85 : decode prog_14_method_27_code 85 = .ok (.isub, 1) := by decide +kernel
theorem d_X12_sheetRings_86 : decode prog_14_method_27_code 86 = .ok (.iconst 2, 1) := by decide +kernel
theorem d_X12_sheetRings_87 : decode prog_14_method_27_code 87 = .ok (.irem, 1) := by decide +kernel
theorem d_X12_sheetRings_88 : decode prog_14_method_27_code 88 = .ok (.isub, 1) := by decide +kernel
theorem d_X12_sheetRings_89 : decode prog_14_method_27_code 89 = .ok (.istore 4, 2) := by decide +kernel
theorem d_X12_sheetRings_91 : decode prog_14_method_27_code 91 = .ok (.aload_n 0, 1) := by decide +kernel
theorem d_X12_sheetRings_92 : decode prog_14_method_27_code 92 = .ok (.getfield 122, 3) := by decide +kernel
theorem d_X12_sheetRings_95 : decode prog_14_method_27_code 95 = .ok (.iload 4, 2) := by decide +kernel
theorem d_X12_sheetRings_97 : decode prog_14_method_27_code 97 = .ok (.iconst 1, 1) := by decide +kernel
theorem d_X12_sheetRings_98 : decode prog_14_method_27_code 98 = .ok (.bastore, 1) := by decide +kernel
theorem d_X12_sheetRings_99 : decode prog_14_method_27_code 99 = .ok (.aload_n 0, 1) := by decide +kernel
theorem d_X12_sheetRings_100 : decode prog_14_method_27_code 100 = .ok (.getfield 104, 3) := by decide +kernel
theorem d_X12_sheetRings_103 : decode prog_14_method_27_code 103 = .ok (.iload 4, 2) := by decide +kernel
theorem d_X12_sheetRings_105 : decode prog_14_method_27_code 105 = .ok (.iaload, 1) := by decide +kernel
theorem d_X12_sheetRings_106 : decode prog_14_method_27_code 106 = .ok (.istore_n 3, 1) := by decide +kernel
theorem d_X12_sheetRings_107 : decode prog_14_method_27_code 107 = .ok (.goto (-57), 3) := by decide +kernel
theorem d_X12_sheetRings_110 : decode prog_14_method_27_code 110 = .ok (.iinc 2 1, 3) := by decide +kernel
theorem d_X12_sheetRings_113 : decode prog_14_method_27_code 113 = .ok (.goto (-107), 3) := by decide +kernel
theorem d_X12_sheetRings_116 : decode prog_14_method_27_code 116 = .ok (.iload_n 1, 1) := by decide +kernel
theorem d_X12_sheetRings_117 : decode prog_14_method_27_code 117 = .ok (.ireturn, 1) := by decide +kernel
theorem d_X12_readNet_0 : decode prog_14_method_35_code 0 = .ok (.aload_n 0, 1) := by decide +kernel
theorem d_X12_readNet_1 : decode prog_14_method_35_code 1 = .ok (.getfield 320, 3) := by decide +kernel
theorem d_X12_readNet_4 : decode prog_14_method_35_code 4 = .ok (.ifCond .eq 13, 3) := by decide +kernel
theorem d_X12_readNet_7 : decode prog_14_method_35_code 7 = .ok (.aload_n 0, 1) := by decide +kernel
theorem d_X12_readNet_8 : decode prog_14_method_35_code 8 = .ok (.iconst 4, 1) := by decide +kernel
theorem d_X12_readNet_9 : decode prog_14_method_35_code 9 = .ok (.aload_n 0, 1) := by decide +kernel
theorem d_X12_readNet_10 : decode prog_14_method_35_code 10 = .ok (.getfield 202, 3) := by decide +kernel
theorem d_X12_readNet_13 : decode prog_14_method_35_code 13 = .ok (.invokevirtual 234, 3) := by decide +kernel
theorem d_X12_readNet_16 : decode prog_14_method_35_code 16 = .ok (.ireturn, 1) := by decide +kernel
theorem d_X12_readNet_17 : decode prog_14_method_35_code 17 = .ok (.aload_n 0, 1) := by decide +kernel
theorem d_X12_readNet_18 : decode prog_14_method_35_code 18 = .ok (.iconst 1, 1) := by decide +kernel
theorem d_X12_readNet_19 : decode prog_14_method_35_code 19 = .ok (.putfield 320, 3) := by decide +kernel
theorem d_X12_readNet_22 : decode prog_14_method_35_code 22 = .ok (.aload_n 0, 1) := by decide +kernel
theorem d_X12_readNet_23 : decode prog_14_method_35_code 23 = .ok (.sipush 200, 3) := by decide +kernel
theorem d_X12_readNet_26 : decode prog_14_method_35_code 26 = .ok (.invokevirtual 299, 3) := by decide +kernel
theorem d_X12_readNet_29 : decode prog_14_method_35_code 29 = .ok (.aload_n 0, 1) := by decide +kernel
theorem d_X12_readNet_30 : decode prog_14_method_35_code 30 = .ok (.invokevirtual 245, 3) := by decide +kernel
theorem d_X12_readNet_33 : decode prog_14_method_35_code 33 = .ok (.aload_n 0, 1) := by decide +kernel
theorem d_X12_readNet_34 : decode prog_14_method_35_code 34 = .ok (.bipush 59, 2) := by decide +kernel
theorem d_X12_readNet_36 : decode prog_14_method_35_code 36 = .ok (.invokevirtual 238, 3) := by decide +kernel
theorem d_X12_readNet_39 : decode prog_14_method_35_code 39 = .ok (.ifCond .ne 12, 3) := by decide +kernel
theorem d_X12_readNet_42 : decode prog_14_method_35_code 42 = .ok (.aload_n 0, 1) := by decide +kernel
theorem d_X12_readNet_43 : decode prog_14_method_35_code 43 = .ok (.invokevirtual 305, 3) := by decide +kernel
theorem d_X12_readNet_46 : decode prog_14_method_35_code 46 = .ok (.ifCond .ne 5, 3) := by decide +kernel
theorem d_X12_readNet_49 : decode prog_14_method_35_code 49 = .ok (.iconst 0, 1) := by decide +kernel
theorem d_X12_readNet_50 : decode prog_14_method_35_code 50 = .ok (.ireturn, 1) := by decide +kernel
theorem d_X12_readNet_51 : decode prog_14_method_35_code 51 = .ok (.aload_n 0, 1) := by decide +kernel
theorem d_X12_readNet_52 : decode prog_14_method_35_code 52 = .ok (.bipush 59, 2) := by decide +kernel
theorem d_X12_readNet_54 : decode prog_14_method_35_code 54 = .ok (.invokevirtual 238, 3) := by decide +kernel
theorem d_X12_readNet_57 : decode prog_14_method_35_code 57 = .ok (.ifCond .ne 8, 3) := by decide +kernel
theorem d_X12_readNet_60 : decode prog_14_method_35_code 60 = .ok (.aload_n 0, 1) := by decide +kernel
theorem d_X12_readNet_61 : decode prog_14_method_35_code 61 = .ok (.invokevirtual 241, 3) := by decide +kernel
theorem d_X12_readNet_64 : decode prog_14_method_35_code 64 = .ok (.ireturn, 1) := by decide +kernel
theorem d_X12_readNet_65 : decode prog_14_method_35_code 65 = .ok (.aload_n 0, 1) := by decide +kernel
theorem d_X12_readNet_66 : decode prog_14_method_35_code 66 = .ok (.iconst 0, 1) := by decide +kernel
theorem d_X12_readNet_67 : decode prog_14_method_35_code 67 = .ok (.putfield 324, 3) := by decide +kernel
theorem d_X12_readNet_70 : decode prog_14_method_35_code 70 = .ok (.iconst 1, 1) := by decide +kernel
theorem d_X12_readNet_71 : decode prog_14_method_35_code 71 = .ok (.istore_n 1, 1) := by decide +kernel
theorem d_X12_readNet_72 : decode prog_14_method_35_code 72 = .ok (.iconst 0, 1) := by decide +kernel
theorem d_X12_readNet_73 : decode prog_14_method_35_code 73 = .ok (.istore_n 2, 1) := by decide +kernel
theorem d_X12_readNet_74 : decode prog_14_method_35_code 74 = .ok (.iload_n 2, 1) := by decide +kernel
theorem d_X12_readNet_75 : decode prog_14_method_35_code 75 = .ok (.aload_n 0, 1) := by decide +kernel
theorem d_X12_readNet_76 : decode prog_14_method_35_code 76 = .ok (.getfield 267, 3) := by decide +kernel
theorem d_X12_readNet_79 : decode prog_14_method_35_code 79 = .ok (.if_icmp .ge 63, 3) := by decide +kernel
theorem d_X12_readNet_82 : decode prog_14_method_35_code 82 = .ok (.iload_n 1, 1) := by decide +kernel
theorem d_X12_readNet_83 : decode prog_14_method_35_code 83 = .ok (.ifCond .eq 17, 3) := by decide +kernel
theorem d_X12_readNet_86 : decode prog_14_method_35_code 86 = .ok (.aload_n 0, 1) := by decide +kernel
theorem d_X12_readNet_87 : decode prog_14_method_35_code 87 = .ok (.getfield 110, 3) := by decide +kernel
theorem d_X12_readNet_90 : decode prog_14_method_35_code 90 = .ok (.iload_n 2, 1) := by decide +kernel
theorem d_X12_readNet_91 : decode prog_14_method_35_code 91 = .ok (.iaload, 1) := by decide +kernel
theorem d_X12_readNet_92 : decode prog_14_method_35_code 92 = .ok (.iconst 3, 1) := by decide +kernel
theorem d_X12_readNet_93 : decode prog_14_method_35_code 93 = .ok (.if_icmp .ge 7, 3) := by decide +kernel
theorem d_X12_readNet_96 : decode prog_14_method_35_code 96 = .ok (.iconst 1, 1) := by decide +kernel
theorem d_X12_readNet_97 : decode prog_14_method_35_code 97 = .ok (.goto 4, 3) := by decide +kernel
theorem d_X12_readNet_100 : decode prog_14_method_35_code 100 = .ok (.iconst 0, 1) := by decide +kernel
theorem d_X12_readNet_101 : decode prog_14_method_35_code 101 = .ok (.istore_n 1, 1) := by decide +kernel
theorem d_X12_readNet_102 : decode prog_14_method_35_code 102 = .ok (.aload_n 0, 1) := by decide +kernel
theorem d_X12_readNet_103 : decode prog_14_method_35_code 103 = .ok (.getfield 125, 3) := by decide +kernel
theorem d_X12_readNet_106 : decode prog_14_method_35_code 106 = .ok (.iload_n 2, 1) := by decide +kernel
theorem d_X12_readNet_107 : decode prog_14_method_35_code 107 = .ok (.aload_n 0, 1) := by decide +kernel
theorem d_X12_readNet_108 : decode prog_14_method_35_code 108 = .ok (.getfield 324, 3) := by decide +kernel
theorem d_X12_readNet_111 : decode prog_14_method_35_code 111 = .ok (.iastore, 1) := by decide +kernel
theorem d_X12_readNet_112 : decode prog_14_method_35_code 112 = .ok (.aload_n 0, 1) := by decide +kernel
theorem d_X12_readNet_113 : decode prog_14_method_35_code 113 = .ok (.dup, 1) := by decide +kernel
theorem d_X12_readNet_114 : decode prog_14_method_35_code 114 = .ok (.getfield 324, 3) := by decide +kernel
theorem d_X12_readNet_117 : decode prog_14_method_35_code 117 = .ok (.aload_n 0, 1) := by decide +kernel
theorem d_X12_readNet_118 : decode prog_14_method_35_code 118 = .ok (.getfield 110, 3) := by decide +kernel
theorem d_X12_readNet_121 : decode prog_14_method_35_code 121 = .ok (.iload_n 2, 1) := by decide +kernel
theorem d_X12_readNet_122 : decode prog_14_method_35_code 122 = .ok (.iaload, 1) := by decide +kernel
theorem d_X12_readNet_123 : decode prog_14_method_35_code 123 = .ok (.iconst 1, 1) := by decide +kernel
theorem d_X12_readNet_124 : decode prog_14_method_35_code 124 = .ok (.if_icmp .ne 7, 3) := by decide +kernel
theorem d_X12_readNet_127 : decode prog_14_method_35_code 127 = .ok (.iconst 1, 1) := by decide +kernel
theorem d_X12_readNet_128 : decode prog_14_method_35_code 128 = .ok (.goto 4, 3) := by decide +kernel
theorem d_X12_readNet_131 : decode prog_14_method_35_code 131 = .ok (.iconst 0, 1) := by decide +kernel
theorem d_X12_readNet_132 : decode prog_14_method_35_code 132 = .ok (.iadd, 1) := by decide +kernel
theorem d_X12_readNet_133 : decode prog_14_method_35_code 133 = .ok (.putfield 324, 3) := by decide +kernel
theorem d_X12_readNet_136 : decode prog_14_method_35_code 136 = .ok (.iinc 2 1, 3) := by decide +kernel
theorem d_X12_readNet_139 : decode prog_14_method_35_code 139 = .ok (.goto (-65), 3) := by decide +kernel
theorem d_X12_readNet_142 : decode prog_14_method_35_code 142 = .ok (.iload_n 1, 1) := by decide +kernel
theorem d_X12_readNet_143 : decode prog_14_method_35_code 143 = .ok (.ifCond .eq 19, 3) := by decide +kernel
theorem d_X12_readNet_146 : decode prog_14_method_35_code 146 = .ok (.aload_n 0, 1) := by decide +kernel
theorem d_X12_readNet_147 : decode prog_14_method_35_code 147 = .ok (.getfield 324, 3) := by decide +kernel
theorem d_X12_readNet_150 : decode prog_14_method_35_code 150 = .ok (.bipush 8, 2) := by decide +kernel
theorem d_X12_readNet_152 : decode prog_14_method_35_code 152 = .ok (.if_icmp .gt 10, 3) := by decide +kernel
theorem d_X12_readNet_155 : decode prog_14_method_35_code 155 = .ok (.aload_n 0, 1) := by decide +kernel
theorem d_X12_readNet_156 : decode prog_14_method_35_code 156 = .ok (.invokevirtual 308, 3) := by decide +kernel
theorem d_X12_readNet_159 : decode prog_14_method_35_code 159 = .ok (.ifCond .ne 14, 3) := by decide +kernel
theorem d_X12_readNet_162 : decode prog_14_method_35_code 162 = .ok (.aload_n 0, 1) := by decide +kernel
theorem d_X12_readNet_163 : decode prog_14_method_35_code 163 = .ok (.bipush 7, 2) := by decide +kernel
theorem d_X12_readNet_165 : decode prog_14_method_35_code 165 = .ok (.aload_n 0, 1) := by decide +kernel
theorem d_X12_readNet_166 : decode prog_14_method_35_code 166 = .ok (.getfield 202, 3) := by decide +kernel
theorem d_X12_readNet_169 : decode prog_14_method_35_code 169 = .ok (.invokevirtual 234, 3) := by decide +kernel
theorem d_X12_readNet_172 : decode prog_14_method_35_code 172 = .ok (.ireturn, 1) := by decide +kernel
theorem d_X12_readNet_173 : decode prog_14_method_35_code 173 = .ok (.aload_n 0, 1) := by decide +kernel
theorem d_X12_readNet_174 : decode prog_14_method_35_code 174 = .ok (.aload_n 0, 1) := by decide +kernel
theorem d_X12_readNet_175 : decode prog_14_method_35_code 175 = .ok (.getfield 261, 3) := by decide +kernel
theorem d_X12_readNet_178 : decode prog_14_method_35_code 178 = .ok (.putfield 327, 3) := by decide +kernel
theorem d_X12_readNet_181 : decode prog_14_method_35_code 181 = .ok (.iconst 0, 1) := by decide +kernel
theorem d_X12_readNet_182 : decode prog_14_method_35_code 182 = .ok (.istore_n 2, 1) := by decide +kernel
theorem d_X12_readNet_183 : decode prog_14_method_35_code 183 = .ok (.iload_n 2, 1) := by decide +kernel
theorem d_X12_readNet_184 : decode prog_14_method_35_code 184 = .ok (.aload_n 0, 1) := by decide +kernel
theorem d_X12_readNet_185 : decode prog_14_method_35_code 185 = .ok (.getfield 261, 3) := by decide +kernel
theorem d_X12_readNet_188 : decode prog_14_method_35_code 188 = .ok (.if_icmp .ge 68, 3) := by decide +kernel
theorem d_X12_readNet_191 : decode prog_14_method_35_code 191 = .ok (.aload_n 0, 1) := by decide +kernel
theorem d_X12_readNet_192 : decode prog_14_method_35_code 192 = .ok (.getfield 128, 3) := by decide +kernel
theorem d_X12_readNet_195 : decode prog_14_method_35_code 195 = .ok (.iload_n 2, 1) := by decide +kernel
theorem d_X12_readNet_196 : decode prog_14_method_35_code 196 = .ok (.aload_n 0, 1) := by decide +kernel
theorem d_X12_readNet_197 : decode prog_14_method_35_code 197 = .ok (.getfield 98, 3) := by decide +kernel
theorem d_X12_readNet_200 : decode prog_14_method_35_code 200 = .ok (.iload_n 2, 1) := by decide +kernel
theorem d_X12_readNet_201 : decode prog_14_method_35_code 201 = .ok (.iaload, 1) := by decide +kernel
theorem d_X12_readNet_202 : decode prog_14_method_35_code 202 = .ok (.iastore, 1) := by decide +kernel
theorem d_X12_readNet_203 : decode prog_14_method_35_code 203 = .ok (.iconst 0, 1) := by decide +kernel
theorem d_X12_readNet_204 : decode prog_14_method_35_code 204 = .ok (.istore_n 3, 1) := by decide +kernel
theorem d_X12_readNet_205 : decode prog_14_method_35_code 205 = .ok (.iload_n 3, 1) := by decide +kernel
theorem d_X12_readNet_206 : decode prog_14_method_35_code 206 = .ok (.aload_n 0, 1) := by decide +kernel
theorem d_X12_readNet_207 : decode prog_14_method_35_code 207 = .ok (.getfield 71, 3) := by decide +kernel
theorem d_X12_readNet_210 : decode prog_14_method_35_code 210 = .ok (.aload_n 0, 1) := by decide +kernel
theorem d_X12_readNet_211 : decode prog_14_method_35_code 211 = .ok (.getfield 98, 3) := by decide +kernel
theorem d_X12_readNet_214 : decode prog_14_method_35_code 214 = .ok (.iload_n 2, 1) := by decide +kernel
theorem d_X12_readNet_215 : decode prog_14_method_35_code 215 = .ok (.iaload, 1) := by decide +kernel
theorem d_X12_readNet_216 : decode prog_14_method_35_code 216 = .ok (.iaload, 1) := by decide +kernel
theorem d_X12_readNet_217 : decode prog_14_method_35_code 217 = .ok (.if_icmp .ge 33, 3) := by decide +kernel
theorem d_X12_readNet_220 : decode prog_14_method_35_code 220 = .ok (.aload_n 0, 1) := by decide +kernel
theorem d_X12_readNet_221 : decode prog_14_method_35_code 221 = .ok (.getfield 131, 3) := by decide +kernel
theorem d_X12_readNet_224 : decode prog_14_method_35_code 224 = .ok (.iconst 5, 1) := by decide +kernel
theorem d_X12_readNet_225 : decode prog_14_method_35_code 225 = .ok (.iload_n 2, 1) := by decide +kernel
theorem d_X12_readNet_226 : decode prog_14_method_35_code 226 = .ok (.imul, 1) := by decide +kernel
theorem d_X12_readNet_227 : decode prog_14_method_35_code 227 = .ok (.iload_n 3, 1) := by decide +kernel
theorem d_X12_readNet_228 : decode prog_14_method_35_code 228 = .ok (.iadd, 1) := by decide +kernel
theorem d_X12_readNet_229 : decode prog_14_method_35_code 229 = .ok (.aload_n 0, 1) := by decide +kernel
theorem d_X12_readNet_230 : decode prog_14_method_35_code 230 = .ok (.aload_n 0, 1) := by decide +kernel
theorem d_X12_readNet_231 : decode prog_14_method_35_code 231 = .ok (.getfield 104, 3) := by decide +kernel
theorem d_X12_readNet_234 : decode prog_14_method_35_code 234 = .ok (.iconst 5, 1) := by decide +kernel
theorem d_X12_readNet_235 : decode prog_14_method_35_code 235 = .ok (.iload_n 2, 1) := by decide +kernel
theorem d_X12_readNet_236 : decode prog_14_method_35_code 236 = .ok (.imul, 1) := by decide +kernel
theorem d_X12_readNet_237 : decode prog_14_method_35_code 237 = .ok (.iload_n 3, 1) := by decide +kernel
theorem d_X12_readNet_238 : decode prog_14_method_35_code 238 = .ok (.iadd, 1) := by decide +kernel
theorem d_X12_readNet_239 : decode prog_14_method_35_code 239 = .ok (.iaload, 1) := by decide +kernel
theorem d_X12_readNet_240 : decode prog_14_method_35_code 240 = .ok (.invokevirtual 284, 3) := by decide +kernel
theorem d_X12_readNet_243 : decode prog_14_method_35_code 243 = .ok (.iastore, 1) := by decide +kernel
theorem d_X12_readNet_244 : decode prog_14_method_35_code 244 = .ok (.iinc 3 1, 3) := by decide +kernel
theorem d_X12_readNet_247 : decode prog_14_method_35_code 247 = .ok (.goto (-42), 3) := by decide +kernel
theorem d_X12_readNet_250 : decode prog_14_method_35_code 250 = .ok (.iinc 2 1, 3) := by decide +kernel
theorem d_X12_readNet_253 : decode prog_14_method_35_code 253 = .ok (.goto (-70), 3) := by decide +kernel
theorem d_X12_readNet_256 : decode prog_14_method_35_code 256 = .ok (.iconst 0, 1) := by decide +kernel
theorem d_X12_readNet_257 : decode prog_14_method_35_code 257 = .ok (.istore_n 2, 1) := by decide +kernel
theorem d_X12_readNet_258 : decode prog_14_method_35_code 258 = .ok (.iload_n 2, 1) := by decide +kernel
theorem d_X12_readNet_259 : decode prog_14_method_35_code 259 = .ok (.aload_n 0, 1) := by decide +kernel
theorem d_X12_readNet_260 : decode prog_14_method_35_code 260 = .ok (.getfield 267, 3) := by decide +kernel
theorem d_X12_readNet_263 : decode prog_14_method_35_code 263 = .ok (.if_icmp .ge 59, 3) := by decide +kernel
theorem d_X12_readNet_266 : decode prog_14_method_35_code 266 = .ok (.aload_n 0, 1) := by decide +kernel
theorem d_X12_readNet_267 : decode prog_14_method_35_code 267 = .ok (.getfield 110, 3) := by decide +kernel
theorem d_X12_readNet_270 : decode prog_14_method_35_code 270 = .ok (.iload_n 2, 1) := by decide +kernel
theorem d_X12_readNet_271 : decode prog_14_method_35_code 271 = .ok (.iaload, 1) := by decide +kernel
theorem d_X12_readNet_272 : decode prog_14_method_35_code 272 = .ok (.iconst 1, 1) := by decide +kernel
theorem d_X12_readNet_273 : decode prog_14_method_35_code 273 = .ok (.if_icmp .ne 43, 3) := by decide +kernel
theorem d_X12_readNet_276 : decode prog_14_method_35_code 276 = .ok (.aload_n 0, 1) := by decide +kernel
theorem d_X12_readNet_277 : decode prog_14_method_35_code 277 = .ok (.getfield 122, 3) := by decide +kernel
theorem d_X12_readNet_280 : decode prog_14_method_35_code 280 = .ok (.sipush 1000, 3) := by decide +kernel
theorem d_X12_readNet_283 : decode prog_14_method_35_code 283 = .ok (.iconst 2, 1) := by decide +kernel
theorem d_X12_readNet_284 : decode prog_14_method_35_code 284 = .ok (.iload_n 2, 1) := by decide +kernel
theorem d_X12_readNet_285 : decode prog_14_method_35_code 285 = .ok (.imul, 1) := by decide +kernel
theorem d_X12_readNet_286 : decode prog_14_method_35_code 286 = .ok (.iadd, 1) := by decide +kernel
theorem d_X12_readNet_287 : decode prog_14_method_35_code 287 = .ok (.iconst 1, 1) := by decide +kernel
theorem d_X12_readNet_288 : decode prog_14_method_35_code 288 = .ok (.bastore, 1) := by decide +kernel
theorem d_X12_readNet_289 : decode prog_14_method_35_code 289 = .ok (.aload_n 0, 1) := by decide +kernel
theorem d_X12_readNet_290 : decode prog_14_method_35_code 290 = .ok (.getfield 134, 3) := by decide +kernel
theorem d_X12_readNet_293 : decode prog_14_method_35_code 293 = .ok (.aload_n 0, 1) := by decide +kernel
theorem d_X12_readNet_294 : decode prog_14_method_35_code 294 = .ok (.getfield 125, 3) := by decide +kernel
theorem d_X12_readNet_297 : decode prog_14_method_35_code 297 = .ok (.iload_n 2, 1) := by decide +kernel
theorem d_X12_readNet_298 : decode prog_14_method_35_code 298 = .ok (.iaload, 1) := by decide +kernel
theorem d_X12_readNet_299 : decode prog_14_method_35_code 299 = .ok (.aload_n 0, 1) := by decide +kernel
theorem d_X12_readNet_300 : decode prog_14_method_35_code 300 = .ok (.aload_n 0, 1) := by decide +kernel
theorem d_X12_readNet_301 : decode prog_14_method_35_code 301 = .ok (.getfield 104, 3) := by decide +kernel
theorem d_X12_readNet_304 : decode prog_14_method_35_code 304 = .ok (.sipush 1000, 3) := by decide +kernel
theorem d_X12_readNet_307 : decode prog_14_method_35_code 307 = .ok (.iconst 2, 1) := by decide +kernel
theorem d_X12_readNet_308 : decode prog_14_method_35_code 308 = .ok (.iload_n 2, 1) := by decide +kernel
theorem d_X12_readNet_309 : decode prog_14_method_35_code 309 = .ok (.imul, 1) := by decide +kernel
theorem d_X12_readNet_310 : decode prog_14_method_35_code 310 = .ok (.iadd, 1) := by decide +kernel
theorem d_X12_readNet_311 : decode prog_14_method_35_code 311 = .ok (.iaload, 1) := by decide +kernel
theorem d_X12_readNet_312 : decode prog_14_method_35_code 312 = .ok (.invokevirtual 284, 3) := by decide +kernel
theorem d_X12_readNet_315 : decode prog_14_method_35_code 315 = .ok (.iastore, 1) := by decide +kernel
theorem d_X12_readNet_316 : decode prog_14_method_35_code 316 = .ok (.iinc 2 1, 3) := by decide +kernel
theorem d_X12_readNet_319 : decode prog_14_method_35_code 319 = .ok (.goto (-61), 3) := by decide +kernel
theorem d_X12_readNet_322 : decode prog_14_method_35_code 322 = .ok (.aload_n 0, 1) := by decide +kernel
theorem d_X12_readNet_323 : decode prog_14_method_35_code 323 = .ok (.aload_n 0, 1) := by decide +kernel
theorem d_X12_readNet_324 : decode prog_14_method_35_code 324 = .ok (.invokevirtual 314, 3) := by decide +kernel
theorem d_X12_readNet_327 : decode prog_14_method_35_code 327 = .ok (.putfield 330, 3) := by decide +kernel
theorem d_X12_readNet_330 : decode prog_14_method_35_code 330 = .ok (.iconst 1, 1) := by decide +kernel
theorem d_X12_readNet_331 : decode prog_14_method_35_code 331 = .ok (.ireturn, 1) := by decide +kernel
theorem d_X12_readSide_0 : decode prog_14_method_25_code 0 = .ok (.aload_n 0, 1) := by decide +kernel
theorem d_X12_readSide_1 : decode prog_14_method_25_code 1 = .ok (.getfield 205, 3) := by decide +kernel
theorem d_X12_readSide_4 : decode prog_14_method_25_code 4 = .ok (.iconst 2, 1) := by decide +kernel
theorem d_X12_readSide_5 : decode prog_14_method_25_code 5 = .ok (.if_icmp .eq 8, 3) := by decide +kernel
theorem d_X12_readSide_8 : decode prog_14_method_25_code 8 = .ok (.aload_n 0, 1) := by decide +kernel
theorem d_X12_readSide_9 : decode prog_14_method_25_code 9 = .ok (.invokevirtual 241, 3) := by decide +kernel
theorem d_X12_readSide_12 : decode prog_14_method_25_code 12 = .ok (.ireturn, 1) := by decide +kernel
theorem d_X12_readSide_13 : decode prog_14_method_25_code 13 = .ok (.aload_n 0, 1) := by decide +kernel
theorem d_X12_readSide_14 : decode prog_14_method_25_code 14 = .ok (.aload_n 0, 1) := by decide +kernel
theorem d_X12_readSide_15 : decode prog_14_method_25_code 15 = .ok (.getfield 225, 3) := by decide +kernel
theorem d_X12_readSide_18 : decode prog_14_method_25_code 18 = .ok (.invokevirtual 251, 3) := by decide +kernel
theorem d_X12_readSide_21 : decode prog_14_method_25_code 21 = .ok (.istore_n 2, 1) := by decide +kernel
theorem d_X12_readSide_22 : decode prog_14_method_25_code 22 = .ok (.aload_n 0, 1) := by decide +kernel
theorem d_X12_readSide_23 : decode prog_14_method_25_code 23 = .ok (.getfield 202, 3) := by decide +kernel
theorem d_X12_readSide_26 : decode prog_14_method_25_code 26 = .ok (.istore_n 3, 1) := by decide +kernel
theorem d_X12_readSide_27 : decode prog_14_method_25_code 27 = .ok (.iload_n 2, 1) := by decide +kernel
theorem d_X12_readSide_28 : decode prog_14_method_25_code 28 = .ok (.ifCond .ge 10, 3) := by decide +kernel
theorem d_X12_readSide_31 : decode prog_14_method_25_code 31 = .ok (.aload_n 0, 1) := by decide +kernel
theorem d_X12_readSide_32 : decode prog_14_method_25_code 32 = .ok (.iconst 3, 1) := by decide +kernel
theorem d_X12_readSide_33 : decode prog_14_method_25_code 33 = .ok (.iload_n 3, 1) := by decide +kernel
theorem d_X12_readSide_34 : decode prog_14_method_25_code 34 = .ok (.invokevirtual 234, 3) := by decide +kernel
theorem d_X12_readSide_37 : decode prog_14_method_25_code 37 = .ok (.ireturn, 1) := by decide +kernel
theorem d_X12_readSide_38 : decode prog_14_method_25_code 38 = .ok (.aload_n 0, 1) := by decide +kernel
theorem d_X12_readSide_39 : decode prog_14_method_25_code 39 = .ok (.getfield 113, 3) := by decide +kernel
theorem d_X12_readSide_42 : decode prog_14_method_25_code 42 = .ok (.iload_n 1, 1) := by decide +kernel
theorem d_X12_readSide_43 : decode prog_14_method_25_code 43 = .ok (.iload_n 2, 1) := by decide +kernel
theorem d_X12_readSide_44 : decode prog_14_method_25_code 44 = .ok (.iastore, 1) := by decide +kernel
theorem d_X12_readSide_45 : decode prog_14_method_25_code 45 = .ok (.aload_n 0, 1) := by decide +kernel
theorem d_X12_readSide_46 : decode prog_14_method_25_code 46 = .ok (.invokevirtual 245, 3) := by decide +kernel
theorem d_X12_readSide_49 : decode prog_14_method_25_code 49 = .ok (.iconst 1, 1) := by decide +kernel
theorem d_X12_readSide_50 : decode prog_14_method_25_code 50 = .ok (.istore 4, 2) := by decide +kernel
theorem d_X12_readSide_52 : decode prog_14_method_25_code 52 = .ok (.aload_n 0, 1) := by decide +kernel
theorem d_X12_readSide_53 : decode prog_14_method_25_code 53 = .ok (.bipush 40, 2) := by decide +kernel
theorem d_X12_readSide_55 : decode prog_14_method_25_code 55 = .ok (.invokevirtual 238, 3) := by decide +kernel
theorem d_X12_readSide_58 : decode prog_14_method_25_code 58 = .ok (.istore 5, 2) := by decide +kernel
theorem d_X12_readSide_60 : decode prog_14_method_25_code 60 = .ok (.iload 5, 2) := by decide +kernel
theorem d_X12_readSide_62 : decode prog_14_method_25_code 62 = .ok (.istore 6, 2) := by decide +kernel
theorem d_X12_readSide_64 : decode prog_14_method_25_code 64 = .ok (.iload 5, 2) := by decide +kernel
theorem d_X12_readSide_66 : decode prog_14_method_25_code 66 = .ok (.ifCond .eq 86, 3) := by decide +kernel
theorem d_X12_readSide_69 : decode prog_14_method_25_code 69 = .ok (.aload_n 0, 1) := by decide +kernel
theorem d_X12_readSide_70 : decode prog_14_method_25_code 70 = .ok (.invokevirtual 245, 3) := by decide +kernel
theorem d_X12_readSide_73 : decode prog_14_method_25_code 73 = .ok (.aload_n 0, 1) := by decide +kernel
theorem d_X12_readSide_74 : decode prog_14_method_25_code 74 = .ok (.getfield 205, 3) := by decide +kernel
theorem d_X12_readSide_77 : decode prog_14_method_25_code 77 = .ok (.iconst 1, 1) := by decide +kernel
theorem d_X12_readSide_78 : decode prog_14_method_25_code 78 = .ok (.if_icmp .eq 8, 3) := by decide +kernel
theorem d_X12_readSide_81 : decode prog_14_method_25_code 81 = .ok (.aload_n 0, 1) := by decide +kernel
theorem d_X12_readSide_82 : decode prog_14_method_25_code 82 = .ok (.invokevirtual 241, 3) := by decide +kernel
theorem d_X12_readSide_85 : decode prog_14_method_25_code 85 = .ok (.ireturn, 1) := by decide +kernel
theorem d_X12_readSide_86 : decode prog_14_method_25_code 86 = .ok (.aload_n 0, 1) := by decide +kernel
theorem d_X12_readSide_87 : decode prog_14_method_25_code 87 = .ok (.invokevirtual 270, 3) := by decide +kernel
theorem d_X12_readSide_90 : decode prog_14_method_25_code 90 = .ok (.istore 7, 2) := by decide +kernel
theorem d_X12_readSide_92 : decode prog_14_method_25_code 92 = .ok (.iload 7, 2) := by decide +kernel
theorem d_X12_readSide_94 : decode prog_14_method_25_code 94 = .ok (.ifCond .ge 13, 3) := by decide +kernel
theorem d_X12_readSide_97 : decode prog_14_method_25_code 97 = .ok (.aload_n 0, 1) := by decide +kernel
theorem d_X12_readSide_98 : decode prog_14_method_25_code 98 = .ok (.iconst 4, 1) := by decide +kernel
theorem d_X12_readSide_99 : decode prog_14_method_25_code 99 = .ok (.aload_n 0, 1) := by decide +kernel
theorem d_X12_readSide_100 : decode prog_14_method_25_code 100 = .ok (.getfield 202, 3) := by decide +kernel
theorem d_X12_readSide_103 : decode prog_14_method_25_code 103 = .ok (.invokevirtual 234, 3) := by decide +kernel
theorem d_X12_readSide_106 : decode prog_14_method_25_code 106 = .ok (.ireturn, 1) := by decide +kernel
theorem d_X12_readSide_107 : decode prog_14_method_25_code 107 = .ok (.iload 4, 2) := by decide +kernel
theorem d_X12_readSide_109 : decode prog_14_method_25_code 109 = .ok (.aload_n 0, 1) := by decide +kernel
theorem d_X12_readSide_110 : decode prog_14_method_25_code 110 = .ok (.getfield 71, 3) := by decide +kernel
theorem d_X12_readSide_113 : decode prog_14_method_25_code 113 = .ok (.iload_n 2, 1) := by decide +kernel
theorem d_X12_readSide_114 : decode prog_14_method_25_code 114 = .ok (.iaload, 1) := by decide +kernel
theorem d_X12_readSide_115 : decode prog_14_method_25_code 115 = .ok (.if_icmp .ge 19, 3) := by decide +kernel
theorem d_X12_readSide_118 : decode prog_14_method_25_code 118 = .ok (.aload_n 0, 1) := by decide +kernel
theorem d_X12_readSide_119 : decode prog_14_method_25_code 119 = .ok (.sipush 1200, 3) := by decide +kernel
theorem d_X12_readSide_122 : decode prog_14_method_25_code 122 = .ok (.iconst 5, 1) := by decide +kernel
theorem d_X12_readSide_123 : decode prog_14_method_25_code 123 = .ok (.iload_n 1, 1) := by decide +kernel
theorem d_X12_readSide_124 : decode prog_14_method_25_code 124 = .ok (.imul, 1) := by decide +kernel
theorem d_X12_readSide_125 : decode prog_14_method_25_code 125 = .ok (.iadd, 1) := by decide +kernel
theorem d_X12_readSide_126 : decode prog_14_method_25_code 126 = .ok (.iload 4, 2) := by decide +kernel
theorem d_X12_readSide_128 : decode prog_14_method_25_code 128 = .ok (.iadd, 1) := by decide +kernel
theorem d_X12_readSide_129 : decode prog_14_method_25_code 129 = .ok (.iload 7, 2) := by decide +kernel
theorem d_X12_readSide_131 : decode prog_14_method_25_code 131 = .ok (.invokevirtual 277, 3) := by decide +kernel
theorem d_X12_readSide_134 : decode prog_14_method_25_code 134 = .ok (.iinc 4 1, 3) := by decide +kernel
theorem d_X12_readSide_137 : decode prog_14_method_25_code 137 = .ok (.aload_n 0, 1) := by decide +kernel
theorem d_X12_readSide_138 : decode prog_14_method_25_code 138 = .ok (.invokevirtual 245, 3) := by decide +kernel
theorem d_X12_readSide_141 : decode prog_14_method_25_code 141 = .ok (.aload_n 0, 1) := by decide +kernel
theorem d_X12_readSide_142 : decode prog_14_method_25_code 142 = .ok (.bipush 44, 2) := by decide +kernel
theorem d_X12_readSide_144 : decode prog_14_method_25_code 144 = .ok (.invokevirtual 238, 3) := by decide +kernel
theorem d_X12_readSide_147 : decode prog_14_method_25_code 147 = .ok (.istore 5, 2) := by decide +kernel
theorem d_X12_readSide_149 : decode prog_14_method_25_code 149 = .ok (.goto (-85), 3) := by decide +kernel
theorem d_X12_readSide_152 : decode prog_14_method_25_code 152 = .ok (.iload 6, 2) := by decide +kernel
theorem d_X12_readSide_154 : decode prog_14_method_25_code 154 = .ok (.ifCond .eq 17, 3) := by decide +kernel
theorem d_X12_readSide_157 : decode prog_14_method_25_code 157 = .ok (.aload_n 0, 1) := by decide +kernel
theorem d_X12_readSide_158 : decode prog_14_method_25_code 158 = .ok (.bipush 41, 2) := by decide +kernel
theorem d_X12_readSide_160 : decode prog_14_method_25_code 160 = .ok (.invokevirtual 238, 3) := by decide +kernel
theorem d_X12_readSide_163 : decode prog_14_method_25_code 163 = .ok (.ifCond .ne 8, 3) := by decide +kernel
theorem d_X12_readSide_166 : decode prog_14_method_25_code 166 = .ok (.aload_n 0, 1) := by decide +kernel
theorem d_X12_readSide_167 : decode prog_14_method_25_code 167 = .ok (.invokevirtual 241, 3) := by decide +kernel
theorem d_X12_readSide_170 : decode prog_14_method_25_code 170 = .ok (.ireturn, 1) := by decide +kernel
theorem d_X12_readSide_171 : decode prog_14_method_25_code 171 = .ok (.iload 4, 2) := by decide +kernel
theorem d_X12_readSide_173 : decode prog_14_method_25_code 173 = .ok (.aload_n 0, 1) := by decide +kernel
theorem d_X12_readSide_174 : decode prog_14_method_25_code 174 = .ok (.getfield 71, 3) := by decide +kernel
theorem d_X12_readSide_177 : decode prog_14_method_25_code 177 = .ok (.iload_n 2, 1) := by decide +kernel
theorem d_X12_readSide_178 : decode prog_14_method_25_code 178 = .ok (.iaload, 1) := by decide +kernel
theorem d_X12_readSide_179 : decode prog_14_method_25_code 179 = .ok (.if_icmp .eq 10, 3) := by decide +kernel
theorem d_X12_readSide_182 : decode prog_14_method_25_code 182 = .ok (.aload_n 0, 1) := by decide +kernel
theorem d_X12_readSide_183 : decode prog_14_method_25_code 183 = .ok (.iconst 5, 1) := by decide +kernel
theorem d_X12_readSide_184 : decode prog_14_method_25_code 184 = .ok (.iload_n 3, 1) := by decide +kernel
theorem d_X12_readSide_185 : decode prog_14_method_25_code 185 = .ok (.invokevirtual 234, 3) := by decide +kernel
theorem d_X12_readSide_188 : decode prog_14_method_25_code 188 = .ok (.ireturn, 1) := by decide +kernel
theorem d_X12_readSide_189 : decode prog_14_method_25_code 189 = .ok (.iload 6, 2) := by decide +kernel
theorem d_X12_readSide_191 : decode prog_14_method_25_code 191 = .ok (.ifCond .eq 7, 3) := by decide +kernel
theorem d_X12_readSide_194 : decode prog_14_method_25_code 194 = .ok (.aload_n 0, 1) := by decide +kernel
theorem d_X12_readSide_195 : decode prog_14_method_25_code 195 = .ok (.invokevirtual 245, 3) := by decide +kernel
theorem d_X12_readSide_198 : decode prog_14_method_25_code 198 = .ok (.iconst 1, 1) := by decide +kernel
theorem d_X12_readSide_199 : decode prog_14_method_25_code 199 = .ok (.ireturn, 1) := by decide +kernel
theorem d_X12_told_0 : decode prog_14_method_33_code 0 = .ok (.iload_n 0, 1) := by decide +kernel
theorem d_X12_told_1 : decode prog_14_method_33_code 1 = .ok (.sipush 1000, 3) := by decide +kernel
theorem d_X12_told_4 : decode prog_14_method_33_code 4 = .ok (.if_icmp .ge 7, 3) := by decide +kernel
theorem d_X12_told_7 : decode prog_14_method_33_code 7 = .ok (.iload_n 0, 1) := by decide +kernel
theorem d_X12_told_8 : decode prog_14_method_33_code 8 = .ok (.goto 11, 3) := by decide +kernel
theorem d_X12_told_11 : decode prog_14_method_33_code 11 = .ok (.bipush 60, 2) := by decide +kernel
theorem d_X12_told_13 : decode prog_14_method_33_code 13 = .ok (.iload_n 0, 1) := by decide +kernel
theorem d_X12_told_14 : decode prog_14_method_33_code 14 = .ok (.iadd, 1) := by decide +kernel
theorem d_X12_told_15 : decode prog_14_method_33_code 15 = .ok (.sipush 1200, 3) := by decide +kernel
theorem d_X12_told_18 : decode prog_14_method_33_code 18 = .ok (.isub, 1) := by decide +kernel
theorem d_X12_told_19 : decode prog_14_method_33_code 19 = .ok (.ireturn, 1) := by decide +kernel
theorem d_X12_readRule_0 : decode prog_14_method_34_code 0 = .ok (.aload_n 0, 1) := by decide +kernel
theorem d_X12_readRule_1 : decode prog_14_method_34_code 1 = .ok (.getfield 296, 3) := by decide +kernel
theorem d_X12_readRule_4 : decode prog_14_method_34_code 4 = .ok (.bipush 60, 2) := by decide +kernel
theorem d_X12_readRule_6 : decode prog_14_method_34_code 6 = .ok (.if_icmp .ne 13, 3) := by decide +kernel
theorem d_X12_readRule_9 : decode prog_14_method_34_code 9 = .ok (.aload_n 0, 1) := by decide +kernel
theorem d_X12_readRule_10 : decode prog_14_method_34_code 10 = .ok (.iconst 4, 1) := by decide +kernel
theorem d_X12_readRule_11 : decode prog_14_method_34_code 11 = .ok (.aload_n 0, 1) := by decide +kernel
theorem d_X12_readRule_12 : decode prog_14_method_34_code 12 = .ok (.getfield 202, 3) := by decide +kernel
theorem d_X12_readRule_15 : decode prog_14_method_34_code 15 = .ok (.invokevirtual 234, 3) := by decide +kernel
theorem d_X12_readRule_18 : decode prog_14_method_34_code 18 = .ok (.ireturn, 1) := by decide +kernel
theorem d_X12_readRule_19 : decode prog_14_method_34_code 19 = .ok (.aload_n 0, 1) := by decide +kernel
theorem d_X12_readRule_20 : decode prog_14_method_34_code 20 = .ok (.bipush 12, 2) := by decide +kernel
theorem d_X12_readRule_22 : decode prog_14_method_34_code 22 = .ok (.invokevirtual 299, 3) := by decide +kernel
theorem d_X12_readRule_25 : decode prog_14_method_34_code 25 = .ok (.aload_n 0, 1) := by decide +kernel
theorem d_X12_readRule_26 : decode prog_14_method_34_code 26 = .ok (.invokevirtual 245, 3) := by decide +kernel
theorem d_X12_readRule_29 : decode prog_14_method_34_code 29 = .ok (.aload_n 0, 1) := by decide +kernel
theorem d_X12_readRule_30 : decode prog_14_method_34_code 30 = .ok (.iconst 0, 1) := by decide +kernel
theorem d_X12_readRule_31 : decode prog_14_method_34_code 31 = .ok (.invokevirtual 302, 3) := by decide +kernel
theorem d_X12_readRule_34 : decode prog_14_method_34_code 34 = .ok (.ifCond .ne 5, 3) := by decide +kernel
theorem d_X12_readRule_37 : decode prog_14_method_34_code 37 = .ok (.iconst 0, 1) := by decide +kernel
theorem d_X12_readRule_38 : decode prog_14_method_34_code 38 = .ok (.ireturn, 1) := by decide +kernel
theorem d_X12_readRule_39 : decode prog_14_method_34_code 39 = .ok (.aload_n 0, 1) := by decide +kernel
theorem d_X12_readRule_40 : decode prog_14_method_34_code 40 = .ok (.getfield 205, 3) := by decide +kernel
theorem d_X12_readRule_43 : decode prog_14_method_34_code 43 = .ok (.iconst 4, 1) := by decide +kernel
theorem d_X12_readRule_44 : decode prog_14_method_34_code 44 = .ok (.if_icmp .eq 8, 3) := by decide +kernel
theorem d_X12_readRule_47 : decode prog_14_method_34_code 47 = .ok (.aload_n 0, 1) := by decide +kernel
theorem d_X12_readRule_48 : decode prog_14_method_34_code 48 = .ok (.invokevirtual 241, 3) := by decide +kernel
theorem d_X12_readRule_51 : decode prog_14_method_34_code 51 = .ok (.ireturn, 1) := by decide +kernel
theorem d_X12_readRule_52 : decode prog_14_method_34_code 52 = .ok (.aload_n 0, 1) := by decide +kernel
theorem d_X12_readRule_53 : decode prog_14_method_34_code 53 = .ok (.invokevirtual 245, 3) := by decide +kernel
theorem d_X12_readRule_56 : decode prog_14_method_34_code 56 = .ok (.aload_n 0, 1) := by decide +kernel
theorem d_X12_readRule_57 : decode prog_14_method_34_code 57 = .ok (.iconst 1, 1) := by decide +kernel
theorem d_X12_readRule_58 : decode prog_14_method_34_code 58 = .ok (.invokevirtual 302, 3) := by decide +kernel
theorem d_X12_readRule_61 : decode prog_14_method_34_code 61 = .ok (.ifCond .ne 5, 3) := by decide +kernel
theorem d_X12_readRule_64 : decode prog_14_method_34_code 64 = .ok (.iconst 0, 1) := by decide +kernel
theorem d_X12_readRule_65 : decode prog_14_method_34_code 65 = .ok (.ireturn, 1) := by decide +kernel
theorem d_X12_readRule_66 : decode prog_14_method_34_code 66 = .ok (.aload_n 0, 1) := by decide +kernel
theorem d_X12_readRule_67 : decode prog_14_method_34_code 67 = .ok (.bipush 58, 2) := by decide +kernel
theorem d_X12_readRule_69 : decode prog_14_method_34_code 69 = .ok (.invokevirtual 238, 3) := by decide +kernel
theorem d_X12_readRule_72 : decode prog_14_method_34_code 72 = .ok (.ifCond .eq 16, 3) := by decide +kernel
theorem d_X12_readRule_75 : decode prog_14_method_34_code 75 = .ok (.aload_n 0, 1) := by decide +kernel
theorem d_X12_readRule_76 : decode prog_14_method_34_code 76 = .ok (.invokevirtual 245, 3) := by decide +kernel
theorem d_X12_readRule_79 : decode prog_14_method_34_code 79 = .ok (.aload_n 0, 1) := by decide +kernel
theorem d_X12_readRule_80 : decode prog_14_method_34_code 80 = .ok (.invokevirtual 305, 3) := by decide +kernel
theorem d_X12_readRule_83 : decode prog_14_method_34_code 83 = .ok (.ifCond .ne 5, 3) := by decide +kernel
theorem d_X12_readRule_86 : decode prog_14_method_34_code 86 = .ok (.iconst 0, 1) := by decide +kernel
theorem d_X12_readRule_87 : decode prog_14_method_34_code 87 = .ok (.ireturn, 1) := by decide +kernel
theorem d_X12_readRule_88 : decode prog_14_method_34_code 88 = .ok (.aload_n 0, 1) := by decide +kernel
theorem d_X12_readRule_89 : decode prog_14_method_34_code 89 = .ok (.bipush 59, 2) := by decide +kernel
theorem d_X12_readRule_91 : decode prog_14_method_34_code 91 = .ok (.invokevirtual 238, 3) := by decide +kernel
theorem d_X12_readRule_94 : decode prog_14_method_34_code 94 = .ok (.ifCond .ne 8, 3) := by decide +kernel
theorem d_X12_readRule_97 : decode prog_14_method_34_code 97 = .ok (.aload_n 0, 1) := by decide +kernel
theorem d_X12_readRule_98 : decode prog_14_method_34_code 98 = .ok (.invokevirtual 241, 3) := by decide +kernel
theorem d_X12_readRule_101 : decode prog_14_method_34_code 101 = .ok (.ireturn, 1) := by decide +kernel
theorem d_X12_readRule_102 : decode prog_14_method_34_code 102 = .ok (.iconst 1, 1) := by decide +kernel
theorem d_X12_readRule_103 : decode prog_14_method_34_code 103 = .ok (.istore_n 1, 1) := by decide +kernel
theorem d_X12_readRule_104 : decode prog_14_method_34_code 104 = .ok (.iconst 0, 1) := by decide +kernel
theorem d_X12_readRule_105 : decode prog_14_method_34_code 105 = .ok (.istore_n 2, 1) := by decide +kernel
theorem d_X12_readRule_106 : decode prog_14_method_34_code 106 = .ok (.iload_n 2, 1) := by decide +kernel
theorem d_X12_readRule_107 : decode prog_14_method_34_code 107 = .ok (.aload_n 0, 1) := by decide +kernel
theorem d_X12_readRule_108 : decode prog_14_method_34_code 108 = .ok (.getfield 267, 3) := by decide +kernel
theorem d_X12_readRule_111 : decode prog_14_method_34_code 111 = .ok (.if_icmp .ge 29, 3) := by decide +kernel
theorem d_X12_readRule_114 : decode prog_14_method_34_code 114 = .ok (.iload_n 1, 1) := by decide +kernel
theorem d_X12_readRule_115 : decode prog_14_method_34_code 115 = .ok (.ifCond .eq 17, 3) := by decide +kernel
theorem d_X12_readRule_118 : decode prog_14_method_34_code 118 = .ok (.aload_n 0, 1) := by decide +kernel
theorem d_X12_readRule_119 : decode prog_14_method_34_code 119 = .ok (.getfield 110, 3) := by decide +kernel
theorem d_X12_readRule_122 : decode prog_14_method_34_code 122 = .ok (.iload_n 2, 1) := by decide +kernel
theorem d_X12_readRule_123 : decode prog_14_method_34_code 123 = .ok (.iaload, 1) := by decide +kernel
theorem d_X12_readRule_124 : decode prog_14_method_34_code 124 = .ok (.iconst 2, 1) := by decide +kernel
theorem d_X12_readRule_125 : decode prog_14_method_34_code 125 = .ok (.if_icmp .ne 7, 3) := by decide +kernel
theorem d_X12_readRule_128 : decode prog_14_method_34_code 128 = .ok (.iconst 1, 1) := by decide +kernel
theorem d_X12_readRule_129 : decode prog_14_method_34_code 129 = .ok (.goto 4, 3) := by decide +kernel
theorem d_X12_readRule_132 : decode prog_14_method_34_code 132 = .ok (.iconst 0, 1) := by decide +kernel
theorem d_X12_readRule_133 : decode prog_14_method_34_code 133 = .ok (.istore_n 1, 1) := by decide +kernel
theorem d_X12_readRule_134 : decode prog_14_method_34_code 134 = .ok (.iinc 2 1, 3) := by decide +kernel
theorem d_X12_readRule_137 : decode prog_14_method_34_code 137 = .ok (.goto (-31), 3) := by decide +kernel
theorem d_X12_readRule_140 : decode prog_14_method_34_code 140 = .ok (.aload_n 0, 1) := by decide +kernel
theorem d_X12_readRule_141 : decode prog_14_method_34_code 141 = .ok (.getfield 113, 3) := by decide +kernel
theorem d_X12_readRule_144 : decode prog_14_method_34_code 144 = .ok (.iconst 0, 1) := by decide +kernel
theorem d_X12_readRule_145 : decode prog_14_method_34_code 145 = .ok (.iaload, 1) := by decide +kernel
theorem d_X12_readRule_146 : decode prog_14_method_34_code 146 = .ok (.istore_n 2, 1) := by decide +kernel
theorem d_X12_readRule_147 : decode prog_14_method_34_code 147 = .ok (.aload_n 0, 1) := by decide +kernel
theorem d_X12_readRule_148 : decode prog_14_method_34_code 148 = .ok (.getfield 113, 3) := by decide +kernel
theorem d_X12_readRule_151 : decode prog_14_method_34_code 151 = .ok (.iconst 1, 1) := by decide +kernel
theorem d_X12_readRule_152 : decode prog_14_method_34_code 152 = .ok (.iaload, 1) := by decide +kernel
theorem d_X12_readRule_153 : decode prog_14_method_34_code 153 = .ok (.istore_n 3, 1) := by decide +kernel
theorem d_X12_readRule_154 : decode prog_14_method_34_code 154 = .ok (.aload_n 0, 1) := by decide +kernel
theorem d_X12_readRule_155 : decode prog_14_method_34_code 155 = .ok (.getfield 80, 3) := by decide +kernel
theorem d_X12_readRule_158 : decode prog_14_method_34_code 158 = .ok (.bipush 16, 2) := by decide +kernel
theorem d_X12_readRule_160 : decode prog_14_method_34_code 160 = .ok (.iload_n 2, 1) := by decide +kernel
theorem d_X12_readRule_161 : decode prog_14_method_34_code 161 = .ok (.imul, 1) := by decide +kernel
theorem d_X12_readRule_162 : decode prog_14_method_34_code 162 = .ok (.iload_n 3, 1) := by decide +kernel
theorem d_X12_readRule_163 : decode prog_14_method_34_code 163 = .ok (.iadd, 1) := by decide +kernel
theorem d_X12_readRule_164 : decode prog_14_method_34_code 164 = .ok (.iaload, 1) := by decide +kernel
theorem d_X12_readRule_165 : decode prog_14_method_34_code 165 = .ok (.ifCond .ge 7, 3) := by decide +kernel
theorem d_X12_readRule_168 : decode prog_14_method_34_code 168 = .ok (.iload_n 1, 1) := by decide +kernel
theorem d_X12_readRule_169 : decode prog_14_method_34_code 169 = .ok (.ifCond .ne 14, 3) := by decide +kernel
theorem d_X12_readRule_172 : decode prog_14_method_34_code 172 = .ok (.aload_n 0, 1) := by decide +kernel
theorem d_X12_readRule_173 : decode prog_14_method_34_code 173 = .ok (.bipush 6, 2) := by decide +kernel
theorem d_X12_readRule_175 : decode prog_14_method_34_code 175 = .ok (.aload_n 0, 1) := by decide +kernel
theorem d_X12_readRule_176 : decode prog_14_method_34_code 176 = .ok (.getfield 202, 3) := by decide +kernel
theorem d_X12_readRule_179 : decode prog_14_method_34_code 179 = .ok (.invokevirtual 234, 3) := by decide +kernel
theorem d_X12_readRule_182 : decode prog_14_method_34_code 182 = .ok (.ireturn, 1) := by decide +kernel
theorem d_X12_readRule_183 : decode prog_14_method_34_code 183 = .ok (.aload_n 0, 1) := by decide +kernel
theorem d_X12_readRule_184 : decode prog_14_method_34_code 184 = .ok (.invokevirtual 308, 3) := by decide +kernel
theorem d_X12_readRule_187 : decode prog_14_method_34_code 187 = .ok (.istore 4, 2) := by decide +kernel
theorem d_X12_readRule_189 : decode prog_14_method_34_code 189 = .ok (.aload_n 0, 1) := by decide +kernel
theorem d_X12_readRule_190 : decode prog_14_method_34_code 190 = .ok (.invokevirtual 311, 3) := by decide +kernel
theorem d_X12_readRule_193 : decode prog_14_method_34_code 193 = .ok (.ifCond .eq 8, 3) := by decide +kernel
theorem d_X12_readRule_196 : decode prog_14_method_34_code 196 = .ok (.iload 4, 2) := by decide +kernel
theorem d_X12_readRule_198 : decode prog_14_method_34_code 198 = .ok (.ifCond .ne 14, 3) := by decide +kernel
theorem d_X12_readRule_201 : decode prog_14_method_34_code 201 = .ok (.aload_n 0, 1) := by decide +kernel
theorem d_X12_readRule_202 : decode prog_14_method_34_code 202 = .ok (.bipush 7, 2) := by decide +kernel
theorem d_X12_readRule_204 : decode prog_14_method_34_code 204 = .ok (.aload_n 0, 1) := by decide +kernel
theorem d_X12_readRule_205 : decode prog_14_method_34_code 205 = .ok (.getfield 202, 3) := by decide +kernel
theorem d_X12_readRule_208 : decode prog_14_method_34_code 208 = .ok (.invokevirtual 234, 3) := by decide +kernel
theorem d_X12_readRule_211 : decode prog_14_method_34_code 211 = .ok (.ireturn, 1) := by decide +kernel
theorem d_X12_readRule_212 : decode prog_14_method_34_code 212 = .ok (.aload_n 0, 1) := by decide +kernel
theorem d_X12_readRule_213 : decode prog_14_method_34_code 213 = .ok (.getfield 296, 3) := by decide +kernel
theorem d_X12_readRule_216 : decode prog_14_method_34_code 216 = .ok (.istore 5, 2) := by decide +kernel
theorem d_X12_readRule_218 : decode prog_14_method_34_code 218 = .ok (.aload_n 0, 1) := by decide +kernel
theorem d_X12_readRule_219 : decode prog_14_method_34_code 219 = .ok (.getfield 95, 3) := by decide +kernel
theorem d_X12_readRule_222 : decode prog_14_method_34_code 222 = .ok (.iload 5, 2) := by decide +kernel
theorem d_X12_readRule_224 : decode prog_14_method_34_code 224 = .ok (.aload_n 0, 1) := by decide +kernel
theorem d_X12_readRule_225 : decode prog_14_method_34_code 225 = .ok (.invokevirtual 314, 3) := by decide +kernel
theorem d_X12_readRule_228 : decode prog_14_method_34_code 228 = .ok (.iastore, 1) := by decide +kernel
theorem d_X12_readRule_229 : decode prog_14_method_34_code 229 = .ok (.aload_n 0, 1) := by decide +kernel
theorem d_X12_readRule_230 : decode prog_14_method_34_code 230 = .ok (.getfield 80, 3) := by decide +kernel
theorem d_X12_readRule_233 : decode prog_14_method_34_code 233 = .ok (.bipush 16, 2) := by decide +kernel
theorem d_X12_readRule_235 : decode prog_14_method_34_code 235 = .ok (.iload_n 2, 1) := by decide +kernel
theorem d_X12_readRule_236 : decode prog_14_method_34_code 236 = .ok (.imul, 1) := by decide +kernel
theorem d_X12_readRule_237 : decode prog_14_method_34_code 237 = .ok (.iload_n 3, 1) := by decide +kernel
theorem d_X12_readRule_238 : decode prog_14_method_34_code 238 = .ok (.iadd, 1) := by decide +kernel
theorem d_X12_readRule_239 : decode prog_14_method_34_code 239 = .ok (.iload 5, 2) := by decide +kernel
theorem d_X12_readRule_241 : decode prog_14_method_34_code 241 = .ok (.iastore, 1) := by decide +kernel
theorem d_X12_readRule_242 : decode prog_14_method_34_code 242 = .ok (.aload_n 0, 1) := by decide +kernel
theorem d_X12_readRule_243 : decode prog_14_method_34_code 243 = .ok (.getfield 80, 3) := by decide +kernel
theorem d_X12_readRule_246 : decode prog_14_method_34_code 246 = .ok (.bipush 16, 2) := by decide +kernel
theorem d_X12_readRule_248 : decode prog_14_method_34_code 248 = .ok (.iload_n 3, 1) := by decide +kernel
theorem d_X12_readRule_249 : decode prog_14_method_34_code 249 = .ok (.imul, 1) := by decide +kernel
theorem d_X12_readRule_250 : decode prog_14_method_34_code 250 = .ok (.iload_n 2, 1) := by decide +kernel
theorem d_X12_readRule_251 : decode prog_14_method_34_code 251 = .ok (.iadd, 1) := by decide +kernel
theorem d_X12_readRule_252 : decode prog_14_method_34_code 252 = .ok (.iload 5, 2) := by decide +kernel
theorem d_X12_readRule_254 : decode prog_14_method_34_code 254 = .ok (.iastore, 1) := by decide +kernel
theorem d_X12_readRule_255 : decode prog_14_method_34_code 255 = .ok (.aload_n 0, 1) := by decide +kernel
theorem d_X12_readRule_256 : decode prog_14_method_34_code 256 = .ok (.getfield 83, 3) := by decide +kernel
theorem d_X12_readRule_259 : decode prog_14_method_34_code 259 = .ok (.iconst 2, 1) := by decide +kernel
theorem d_X12_readRule_260 : decode prog_14_method_34_code 260 = .ok (.iload 5, 2) := by decide +kernel
theorem d_X12_readRule_262 : decode prog_14_method_34_code 262 = .ok (.imul, 1) := by decide +kernel
theorem d_X12_readRule_263 : decode prog_14_method_34_code 263 = .ok (.iload_n 2, 1) := by decide +kernel
theorem d_X12_readRule_264 : decode prog_14_method_34_code 264 = .ok (.iastore, 1) := by decide +kernel
theorem d_X12_readRule_265 : decode prog_14_method_34_code 265 = .ok (.aload_n 0, 1) := by decide +kernel
theorem d_X12_readRule_266 : decode prog_14_method_34_code 266 = .ok (.getfield 83, 3) := by decide +kernel
theorem d_X12_readRule_269 : decode prog_14_method_34_code 269 = .ok (.iconst 2, 1) := by decide +kernel
theorem d_X12_readRule_270 : decode prog_14_method_34_code 270 = .ok (.iload 5, 2) := by decide +kernel
theorem d_X12_readRule_272 : decode prog_14_method_34_code 272 = .ok (.imul, 1) := by decide +kernel
theorem d_X12_readRule_273 : decode prog_14_method_34_code 273 = .ok (.iconst 1, 1) := by decide +kernel
theorem d_X12_readRule_274 : decode prog_14_method_34_code 274 = .ok (.iadd, 1) := by decide +kernel
theorem d_X12_readRule_275 : decode prog_14_method_34_code 275 = .ok (.iload_n 3, 1) := by decide +kernel
theorem d_X12_readRule_276 : decode prog_14_method_34_code 276 = .ok (.iastore, 1) := by decide +kernel
theorem d_X12_readRule_277 : decode prog_14_method_34_code 277 = .ok (.aload_n 0, 1) := by decide +kernel
theorem d_X12_readRule_278 : decode prog_14_method_34_code 278 = .ok (.getfield 86, 3) := by decide +kernel
theorem d_X12_readRule_281 : decode prog_14_method_34_code 281 = .ok (.iload 5, 2) := by decide +kernel
theorem d_X12_readRule_283 : decode prog_14_method_34_code 283 = .ok (.aload_n 0, 1) := by decide +kernel
theorem d_X12_readRule_284 : decode prog_14_method_34_code 284 = .ok (.getfield 261, 3) := by decide +kernel
theorem d_X12_readRule_287 : decode prog_14_method_34_code 287 = .ok (.iastore, 1) := by decide +kernel
theorem d_X12_readRule_288 : decode prog_14_method_34_code 288 = .ok (.iconst 0, 1) := by decide +kernel
theorem d_X12_readRule_289 : decode prog_14_method_34_code 289 = .ok (.istore 6, 2) := by decide +kernel
theorem d_X12_readRule_291 : decode prog_14_method_34_code 291 = .ok (.iload 6, 2) := by decide +kernel
theorem d_X12_readRule_293 : decode prog_14_method_34_code 293 = .ok (.aload_n 0, 1) := by decide +kernel
theorem d_X12_readRule_294 : decode prog_14_method_34_code 294 = .ok (.getfield 261, 3) := by decide +kernel
theorem d_X12_readRule_297 : decode prog_14_method_34_code 297 = .ok (.if_icmp .ge 92, 3) := by decide +kernel
theorem d_X12_readRule_300 : decode prog_14_method_34_code 300 = .ok (.aload_n 0, 1) := by decide +kernel
theorem d_X12_readRule_301 : decode prog_14_method_34_code 301 = .ok (.getfield 89, 3) := by decide +kernel
theorem d_X12_readRule_304 : decode prog_14_method_34_code 304 = .ok (.bipush 12, 2) := by decide +kernel
theorem d_X12_readRule_306 : decode prog_14_method_34_code 306 = .ok (.iload 5, 2) := by decide +kernel
theorem d_X12_readRule_308 : decode prog_14_method_34_code 308 = .ok (.imul, 1) := by decide +kernel
theorem d_X12_readRule_309 : decode prog_14_method_34_code 309 = .ok (.iload 6, 2) := by decide +kernel
theorem d_X12_readRule_311 : decode prog_14_method_34_code 311 = .ok (.iadd, 1) := by decide +kernel
theorem d_X12_readRule_312 : decode prog_14_method_34_code 312 = .ok (.aload_n 0, 1) := by decide +kernel
theorem d_X12_readRule_313 : decode prog_14_method_34_code 313 = .ok (.getfield 98, 3) := by decide +kernel
theorem d_X12_readRule_316 : decode prog_14_method_34_code 316 = .ok (.iload 6, 2) := by decide +kernel
theorem d_X12_readRule_318 : decode prog_14_method_34_code 318 = .ok (.iaload, 1) := by decide +kernel
theorem d_X12_readRule_319 : decode prog_14_method_34_code 319 = .ok (.iastore, 1) := by decide +kernel
theorem d_X12_readRule_320 : decode prog_14_method_34_code 320 = .ok (.iconst 0, 1) := by decide +kernel
theorem d_X12_readRule_321 : decode prog_14_method_34_code 321 = .ok (.istore 7, 2) := by decide +kernel
theorem d_X12_readRule_323 : decode prog_14_method_34_code 323 = .ok (.iload 7, 2) := by decide +kernel
theorem d_X12_readRule_325 : decode prog_14_method_34_code 325 = .ok (.aload_n 0, 1) := by decide +kernel
theorem d_X12_readRule_326 : decode prog_14_method_34_code 326 = .ok (.getfield 71, 3) := by decide +kernel
theorem d_X12_readRule_329 : decode prog_14_method_34_code 329 = .ok (.aload_n 0, 1) := by decide +kernel
theorem d_X12_readRule_330 : decode prog_14_method_34_code 330 = .ok (.getfield 98, 3) := by decide +kernel
theorem d_X12_readRule_333 : decode prog_14_method_34_code 333 = .ok (.iload 6, 2) := by decide +kernel
theorem d_X12_readRule_335 : decode prog_14_method_34_code 335 = .ok (.iaload, 1) := by decide +kernel
theorem d_X12_readRule_336 : decode prog_14_method_34_code 336 = .ok (.iaload, 1) := by decide +kernel
theorem d_X12_readRule_337 : decode prog_14_method_34_code 337 = .ok (.if_icmp .ge 46, 3) := by decide +kernel
theorem d_X12_readRule_340 : decode prog_14_method_34_code 340 = .ok (.aload_n 0, 1) := by decide +kernel
theorem d_X12_readRule_341 : decode prog_14_method_34_code 341 = .ok (.getfield 92, 3) := by decide +kernel
theorem d_X12_readRule_344 : decode prog_14_method_34_code 344 = .ok (.bipush 70, 2) := by decide +kernel
theorem d_X12_readRule_346 : decode prog_14_method_34_code 346 = .ok (.iload 5, 2) := by decide +kernel
theorem d_X12_readRule_348 : decode prog_14_method_34_code 348 = .ok (.imul, 1) := by decide +kernel
theorem d_X12_readRule_349 : decode prog_14_method_34_code 349 = .ok (.iconst 5, 1) := by decide +kernel
theorem d_X12_readRule_350 : decode prog_14_method_34_code 350 = .ok (.iload 6, 2) := by decide +kernel
theorem d_X12_readRule_352 : decode prog_14_method_34_code 352 = .ok (.imul, 1) := by decide +kernel
theorem d_X12_readRule_353 : decode prog_14_method_34_code 353 = .ok (.iadd, 1) := by decide +kernel
theorem d_X12_readRule_354 : decode prog_14_method_34_code 354 = .ok (.iload 7, 2) := by decide +kernel
theorem d_X12_readRule_356 : decode prog_14_method_34_code 356 = .ok (.iadd, 1) := by decide +kernel
theorem d_X12_readRule_357 : decode prog_14_method_34_code 357 = .ok (.aload_n 0, 1) := by decide +kernel
theorem d_X12_readRule_358 : decode prog_14_method_34_code 358 = .ok (.aload_n 0, 1) := by decide +kernel
theorem d_X12_readRule_359 : decode prog_14_method_34_code 359 = .ok (.getfield 104, 3) := by decide +kernel
theorem d_X12_readRule_362 : decode prog_14_method_34_code 362 = .ok (.iconst 5, 1) := by decide +kernel
theorem d_X12_readRule_363 : decode prog_14_method_34_code 363 = .ok (.iload 6, 2) := by decide +kernel
theorem d_X12_readRule_365 : decode prog_14_method_34_code 365 = .ok (.imul, 1) := by decide +kernel
theorem d_X12_readRule_366 : decode prog_14_method_34_code 366 = .ok (.iload 7, 2) := by decide +kernel
theorem d_X12_readRule_368 : decode prog_14_method_34_code 368 = .ok (.iadd, 1) := by decide +kernel
theorem d_X12_readRule_369 : decode prog_14_method_34_code 369 = .ok (.iaload, 1) := by decide +kernel
theorem d_X12_readRule_370 : decode prog_14_method_34_code 370 = .ok (.invokevirtual 284, 3) := by decide +kernel
theorem d_X12_readRule_373 : decode prog_14_method_34_code 373 = .ok (.invokestatic 317, 3) := by decide +kernel
theorem d_X12_readRule_376 : decode prog_14_method_34_code 376 = .ok (.iastore, 1) := by decide +kernel
theorem d_X12_readRule_377 : decode prog_14_method_34_code 377 = .ok (.iinc 7 1, 3) := by decide +kernel
theorem d_X12_readRule_380 : decode prog_14_method_34_code 380 = .ok (.goto (-57), 3) := by decide +kernel
theorem d_X12_readRule_383 : decode prog_14_method_34_code 383 = .ok (.iinc 6 1, 3) := by decide +kernel
theorem d_X12_readRule_386 : decode prog_14_method_34_code 386 = .ok (.goto (-95), 3) := by decide +kernel
theorem d_X12_readRule_389 : decode prog_14_method_34_code 389 = .ok (.iconst 0, 1) := by decide +kernel
theorem d_X12_readRule_390 : decode prog_14_method_34_code 390 = .ok (.istore 6, 2) := by decide +kernel
theorem d_X12_readRule_392 : decode prog_14_method_34_code 392 = .ok (.iload 6, 2) := by decide +kernel
theorem d_X12_readRule_394 : decode prog_14_method_34_code 394 = .ok (.iconst 2, 1) := by decide +kernel
theorem d_X12_readRule_395 : decode prog_14_method_34_code 395 = .ok (.if_icmp .ge 79, 3) := by decide +kernel
theorem d_X12_readRule_398 : decode prog_14_method_34_code 398 = .ok (.iconst 1, 1) := by decide +kernel
theorem d_X12_readRule_399 : decode prog_14_method_34_code 399 = .ok (.istore 7, 2) := by decide +kernel
theorem d_X12_readRule_401 : decode prog_14_method_34_code 401 = .ok (.iload 7, 2) := by decide +kernel
theorem d_X12_readRule_403 : decode prog_14_method_34_code 403 = .ok (.aload_n 0, 1) := by decide +kernel
theorem d_X12_readRule_404 : decode prog_14_method_34_code 404 = .ok (.getfield 71, 3) := by decide +kernel
theorem d_X12_readRule_407 : decode prog_14_method_34_code 407 = .ok (.aload_n 0, 1) := by decide +kernel
theorem d_X12_readRule_408 : decode prog_14_method_34_code 408 = .ok (.getfield 113, 3) := by decide +kernel
theorem d_X12_readRule_411 : decode prog_14_method_34_code 411 = .ok (.iload 6, 2) := by decide +kernel
theorem d_X12_readRule_413 : decode prog_14_method_34_code 413 = .ok (.iaload, 1) := by decide +kernel
theorem d_X12_readRule_414 : decode prog_14_method_34_code 414 = .ok (.iaload, 1) := by decide +kernel
theorem d_X12_readRule_415 : decode prog_14_method_34_code 415 = .ok (.if_icmp .ge 53, 3) := by decide +kernel
theorem d_X12_readRule_418 : decode prog_14_method_34_code 418 = .ok (.aload_n 0, 1) := by decide +kernel
theorem d_X12_readRule_419 : decode prog_14_method_34_code 419 = .ok (.getfield 92, 3) := by decide +kernel
theorem d_X12_readRule_422 : decode prog_14_method_34_code 422 = .ok (.bipush 70, 2) := by decide +kernel
theorem d_X12_readRule_424 : decode prog_14_method_34_code 424 = .ok (.iload 5, 2) := by decide +kernel
theorem d_X12_readRule_426 : decode prog_14_method_34_code 426 = .ok (.imul, 1) := by decide +kernel
theorem d_X12_readRule_427 : decode prog_14_method_34_code 427 = .ok (.bipush 60, 2) := by decide +kernel
theorem d_X12_readRule_429 : decode prog_14_method_34_code 429 = .ok (.iadd, 1) := by decide +kernel
theorem d_X12_readRule_430 : decode prog_14_method_34_code 430 = .ok (.iconst 5, 1) := by decide +kernel
theorem d_X12_readRule_431 : decode prog_14_method_34_code 431 = .ok (.iload 6, 2) := by decide +kernel
theorem d_X12_readRule_433 : decode prog_14_method_34_code 433 = .ok (.imul, 1) := by decide +kernel
theorem d_X12_readRule_434 : decode prog_14_method_34_code 434 = .ok (.iadd, 1) := by decide +kernel
theorem d_X12_readRule_435 : decode prog_14_method_34_code 435 = .ok (.iload 7, 2) := by decide +kernel
theorem d_X12_readRule_437 : decode prog_14_method_34_code 437 = .ok (.iadd, 1) := by decide +kernel
theorem d_X12_readRule_438 : decode prog_14_method_34_code 438 = .ok (.aload_n 0, 1) := by decide +kernel
theorem d_X12_readRule_439 : decode prog_14_method_34_code 439 = .ok (.aload_n 0, 1) := by decide +kernel
theorem d_X12_readRule_440 : decode prog_14_method_34_code 440 = .ok (.getfield 104, 3) := by decide +kernel
theorem d_X12_readRule_443 : decode prog_14_method_34_code 443 = .ok (.sipush 1200, 3) := by decide +kernel
theorem d_X12_readRule_446 : decode prog_14_method_34_code 446 = .ok (.iconst 5, 1) := by decide +kernel
theorem d_X12_readRule_447 : decode prog_14_method_34_code 447 = .ok (.iload 6, 2) := by decide +kernel
theorem d_X12_readRule_449 : decode prog_14_method_34_code 449 = .ok (.imul, 1) := by decide +kernel
theorem d_X12_readRule_450 : decode prog_14_method_34_code 450 = .ok (.iadd, 1) := by decide +kernel
theorem d_X12_readRule_451 : decode prog_14_method_34_code 451 = .ok (.iload 7, 2) := by decide +kernel
theorem d_X12_readRule_453 : decode prog_14_method_34_code 453 = .ok (.iadd, 1) := by decide +kernel
theorem d_X12_readRule_454 : decode prog_14_method_34_code 454 = .ok (.iaload, 1) := by decide +kernel
theorem d_X12_readRule_455 : decode prog_14_method_34_code 455 = .ok (.invokevirtual 284, 3) := by decide +kernel
theorem d_X12_readRule_458 : decode prog_14_method_34_code 458 = .ok (.invokestatic 317, 3) := by decide +kernel
theorem d_X12_readRule_461 : decode prog_14_method_34_code 461 = .ok (.iastore, 1) := by decide +kernel
theorem d_X12_readRule_462 : decode prog_14_method_34_code 462 = .ok (.iinc 7 1, 3) := by decide +kernel
theorem d_X12_readRule_465 : decode prog_14_method_34_code 465 = .ok (.goto (-64), 3) := by decide +kernel
theorem d_X12_readRule_468 : decode prog_14_method_34_code 468 = .ok (.iinc 6 1, 3) := by decide +kernel
theorem d_X12_readRule_471 : decode prog_14_method_34_code 471 = .ok (.goto (-79), 3) := by decide +kernel
theorem d_X12_readRule_474 : decode prog_14_method_34_code 474 = .ok (.aload_n 0, 1) := by decide +kernel
theorem d_X12_readRule_475 : decode prog_14_method_34_code 475 = .ok (.dup, 1) := by decide +kernel
theorem d_X12_readRule_476 : decode prog_14_method_34_code 476 = .ok (.getfield 296, 3) := by decide +kernel
theorem d_X12_readRule_479 : decode prog_14_method_34_code 479 = .ok (.iconst 1, 1) := by decide +kernel
theorem d_X12_readRule_480 : decode prog_14_method_34_code 480 = .ok (.iadd, 1) := by decide +kernel
theorem d_X12_readRule_481 : decode prog_14_method_34_code 481 = .ok (.putfield 296, 3) := by decide +kernel
theorem d_X12_readRule_484 : decode prog_14_method_34_code 484 = .ok (.iconst 1, 1) := by decide +kernel
theorem d_X12_readRule_485 : decode prog_14_method_34_code 485 = .ok (.ireturn, 1) := by decide +kernel
theorem d_X12_readBook_0 : decode prog_14_method_36_code 0 = .ok (.aload_n 0, 1) := by decide +kernel
theorem d_X12_readBook_1 : decode prog_14_method_36_code 1 = .ok (.invokevirtual 245, 3) := by decide +kernel
theorem d_X12_readBook_4 : decode prog_14_method_36_code 4 = .ok (.aload_n 0, 1) := by decide +kernel
theorem d_X12_readBook_5 : decode prog_14_method_36_code 5 = .ok (.getfield 205, 3) := by decide +kernel
theorem d_X12_readBook_8 : decode prog_14_method_36_code 8 = .ok (.iconst 5, 1) := by decide +kernel
theorem d_X12_readBook_9 : decode prog_14_method_36_code 9 = .ok (.if_icmp .eq 104, 3) := by decide +kernel
theorem d_X12_readBook_12 : decode prog_14_method_36_code 12 = .ok (.aload_n 0, 1) := by decide +kernel
theorem d_X12_readBook_13 : decode prog_14_method_36_code 13 = .ok (.getfield 205, 3) := by decide +kernel
theorem d_X12_readBook_16 : decode prog_14_method_36_code 16 = .ok (.iconst 1, 1) := by decide +kernel
theorem d_X12_readBook_17 : decode prog_14_method_36_code 17 = .ok (.if_icmp .ne 7, 3) := by decide +kernel
theorem d_X12_readBook_20 : decode prog_14_method_36_code 20 = .ok (.iconst 1, 1) := by decide +kernel
theorem d_X12_readBook_21 : decode prog_14_method_36_code 21 = .ok (.goto 4, 3) := by decide +kernel
theorem d_X12_readBook_24 : decode prog_14_method_36_code 24 = .ok (.iconst 0, 1) := by decide +kernel
theorem d_X12_readBook_25 : decode prog_14_method_36_code 25 = .ok (.istore_n 1, 1) := by decide +kernel
theorem d_X12_readBook_26 : decode prog_14_method_36_code 26 = .ok (.iload_n 1, 1) := by decide +kernel
theorem d_X12_readBook_27 : decode prog_14_method_36_code 27 = .ok (.ifCond .eq 22, 3) := by decide +kernel
theorem d_X12_readBook_30 : decode prog_14_method_36_code 30 = .ok (.aload_n 0, 1) := by decide +kernel
theorem d_X12_readBook_31 : decode prog_14_method_36_code 31 = .ok (.getfield 225, 3) := by decide +kernel
theorem d_X12_readBook_34 : decode prog_14_method_36_code 34 = .ok (.ldc2_w 333, 3) := by decide +kernel
theorem d_X12_readBook_37 : decode prog_14_method_36_code 37 = .ok (.lcmp, 1) := by decide +kernel
theorem d_X12_readBook_38 : decode prog_14_method_36_code 38 = .ok (.ifCond .ne 11, 3) := by decide +kernel
theorem d_X12_readBook_41 : decode prog_14_method_36_code 41 = .ok (.aload_n 0, 1) := by decide +kernel
theorem d_X12_readBook_42 : decode prog_14_method_36_code 42 = .ok (.invokevirtual 335, 3) := by decide +kernel
theorem d_X12_readBook_45 : decode prog_14_method_36_code 45 = .ok (.istore_n 2, 1) := by decide +kernel
theorem d_X12_readBook_46 : decode prog_14_method_36_code 46 = .ok (.goto 54, 3) := by decide +kernel
theorem d_X12_readBook_49 : decode prog_14_method_36_code 49 = .ok (.iload_n 1, 1) := by decide +kernel
theorem d_X12_readBook_50 : decode prog_14_method_36_code 50 = .ok (.ifCond .eq 22, 3) := by decide +kernel
theorem d_X12_readBook_53 : decode prog_14_method_36_code 53 = .ok (.aload_n 0, 1) := by decide +kernel
theorem d_X12_readBook_54 : decode prog_14_method_36_code 54 = .ok (.getfield 225, 3) := by decide +kernel
theorem d_X12_readBook_57 : decode prog_14_method_36_code 57 = .ok (.ldc2_w 338, 3) := by decide +kernel
theorem d_X12_readBook_60 : decode prog_14_method_36_code 60 = .ok (.lcmp, 1) := by decide +kernel
theorem d_X12_readBook_61 : decode prog_14_method_36_code 61 = .ok (.ifCond .ne 11, 3) := by decide +kernel
theorem d_X12_readBook_64 : decode prog_14_method_36_code 64 = .ok (.aload_n 0, 1) := by decide +kernel
theorem d_X12_readBook_65 : decode prog_14_method_36_code 65 = .ok (.invokevirtual 340, 3) := by decide +kernel
theorem d_X12_readBook_68 : decode prog_14_method_36_code 68 = .ok (.istore_n 2, 1) := by decide +kernel
theorem d_X12_readBook_69 : decode prog_14_method_36_code 69 = .ok (.goto 31, 3) := by decide +kernel
theorem d_X12_readBook_72 : decode prog_14_method_36_code 72 = .ok (.iload_n 1, 1) := by decide +kernel
theorem d_X12_readBook_73 : decode prog_14_method_36_code 73 = .ok (.ifCond .eq 22, 3) := by decide +kernel
theorem d_X12_readBook_76 : decode prog_14_method_36_code 76 = .ok (.aload_n 0, 1) := by decide +kernel
theorem d_X12_readBook_77 : decode prog_14_method_36_code 77 = .ok (.getfield 225, 3) := by decide +kernel
theorem d_X12_readBook_80 : decode prog_14_method_36_code 80 = .ok (.ldc2_w 343, 3) := by decide +kernel
theorem d_X12_readBook_83 : decode prog_14_method_36_code 83 = .ok (.lcmp, 1) := by decide +kernel
theorem d_X12_readBook_84 : decode prog_14_method_36_code 84 = .ok (.ifCond .ne 11, 3) := by decide +kernel
theorem d_X12_readBook_87 : decode prog_14_method_36_code 87 = .ok (.aload_n 0, 1) := by decide +kernel
theorem d_X12_readBook_88 : decode prog_14_method_36_code 88 = .ok (.invokevirtual 345, 3) := by decide +kernel
theorem d_X12_readBook_91 : decode prog_14_method_36_code 91 = .ok (.istore_n 2, 1) := by decide +kernel
theorem d_X12_readBook_92 : decode prog_14_method_36_code 92 = .ok (.goto 8, 3) := by decide +kernel
theorem d_X12_readBook_95 : decode prog_14_method_36_code 95 = .ok (.aload_n 0, 1) := by decide +kernel
theorem d_X12_readBook_96 : decode prog_14_method_36_code 96 = .ok (.invokevirtual 241, 3) := by decide +kernel
theorem d_X12_readBook_99 : decode prog_14_method_36_code 99 = .ok (.istore_n 2, 1) := by decide +kernel
theorem d_X12_readBook_100 : decode prog_14_method_36_code 100 = .ok (.iload_n 2, 1) := by decide +kernel
theorem d_X12_readBook_101 : decode prog_14_method_36_code 101 = .ok (.ifCond .ne 5, 3) := by decide +kernel
theorem d_X12_readBook_104 : decode prog_14_method_36_code 104 = .ok (.iconst 0, 1) := by decide +kernel
theorem d_X12_readBook_105 : decode prog_14_method_36_code 105 = .ok (.ireturn, 1) := by decide +kernel
theorem d_X12_readBook_106 : decode prog_14_method_36_code 106 = .ok (.aload_n 0, 1) := by decide +kernel
theorem d_X12_readBook_107 : decode prog_14_method_36_code 107 = .ok (.invokevirtual 245, 3) := by decide +kernel
theorem d_X12_readBook_110 : decode prog_14_method_36_code 110 = .ok (.goto (-106), 3) := by decide +kernel
theorem d_X12_readBook_113 : decode prog_14_method_36_code 113 = .ok (.iconst 1, 1) := by decide +kernel
theorem d_X12_readBook_114 : decode prog_14_method_36_code 114 = .ok (.ireturn, 1) := by decide +kernel
theorem d_X12_takeOver_0 : decode prog_14_method_38_code 0 = .ok (.aload_n 0, 1) := by decide +kernel
theorem d_X12_takeOver_1 : decode prog_14_method_38_code 1 = .ok (.aload_n 0, 1) := by decide +kernel
theorem d_X12_takeOver_2 : decode prog_14_method_38_code 2 = .ok (.getfield 248, 3) := by decide +kernel
theorem d_X12_takeOver_5 : decode prog_14_method_38_code 5 = .ok (.putfield 354, 3) := by decide +kernel
theorem d_X12_takeOver_8 : decode prog_14_method_38_code 8 = .ok (.aload_n 0, 1) := by decide +kernel
theorem d_X12_takeOver_9 : decode prog_14_method_38_code 9 = .ok (.aload_n 0, 1) := by decide +kernel
theorem d_X12_takeOver_10 : decode prog_14_method_38_code 10 = .ok (.getfield 296, 3) := by decide +kernel
theorem d_X12_takeOver_13 : decode prog_14_method_38_code 13 = .ok (.putfield 357, 3) := by decide +kernel
theorem d_X12_takeOver_16 : decode prog_14_method_38_code 16 = .ok (.iconst 0, 1) := by decide +kernel
theorem d_X12_takeOver_17 : decode prog_14_method_38_code 17 = .ok (.istore_n 1, 1) := by decide +kernel
theorem d_X12_takeOver_18 : decode prog_14_method_38_code 18 = .ok (.iload_n 1, 1) := by decide +kernel
theorem d_X12_takeOver_19 : decode prog_14_method_38_code 19 = .ok (.bipush 16, 2) := by decide +kernel
theorem d_X12_takeOver_21 : decode prog_14_method_38_code 21 = .ok (.if_icmp .ge 33, 3) := by decide +kernel
theorem d_X12_takeOver_24 : decode prog_14_method_38_code 24 = .ok (.aload_n 0, 1) := by decide +kernel
theorem d_X12_takeOver_25 : decode prog_14_method_38_code 25 = .ok (.getfield 17, 3) := by decide +kernel
theorem d_X12_takeOver_28 : decode prog_14_method_38_code 28 = .ok (.iload_n 1, 1) := by decide +kernel
theorem d_X12_takeOver_29 : decode prog_14_method_38_code 29 = .ok (.aload_n 0, 1) := by decide +kernel
theorem d_X12_takeOver_30 : decode prog_14_method_38_code 30 = .ok (.getfield 68, 3) := by decide +kernel
theorem d_X12_takeOver_33 : decode prog_14_method_38_code 33 = .ok (.iload_n 1, 1) := by decide +kernel
theorem d_X12_takeOver_34 : decode prog_14_method_38_code 34 = .ok (.laload, 1) := by decide +kernel
theorem d_X12_takeOver_35 : decode prog_14_method_38_code 35 = .ok (.lastore, 1) := by decide +kernel
theorem d_X12_takeOver_36 : decode prog_14_method_38_code 36 = .ok (.aload_n 0, 1) := by decide +kernel
theorem d_X12_takeOver_37 : decode prog_14_method_38_code 37 = .ok (.getfield 21, 3) := by decide +kernel
theorem d_X12_takeOver_40 : decode prog_14_method_38_code 40 = .ok (.iload_n 1, 1) := by decide +kernel
theorem d_X12_takeOver_41 : decode prog_14_method_38_code 41 = .ok (.aload_n 0, 1) := by decide +kernel
theorem d_X12_takeOver_42 : decode prog_14_method_38_code 42 = .ok (.getfield 71, 3) := by decide +kernel
