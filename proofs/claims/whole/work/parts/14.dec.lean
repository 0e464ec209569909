theorem d_X12_agentOf_23 : decode prog_14_method_71_code 23 = .ok (.iadd, 1) := by decide +kernel
theorem d_X12_agentOf_24 : decode prog_14_method_71_code 24 = .ok (.iaload, 1) := by decide +kernel
theorem d_X12_agentOf_25 : decode prog_14_method_71_code 25 = .ok (.ireturn, 1) := by decide +kernel
theorem d_X12_asReached_0 : decode prog_14_method_76_code 0 = .ok (.iload_n 2, 1) := by decide +kernel
theorem d_X12_asReached_1 : decode prog_14_method_76_code 1 = .ok (.ifCond .ge 7, 3) := by decide +kernel
theorem d_X12_asReached_4 : decode prog_14_method_76_code 4 = .ok (.iload_n 2, 1) := by decide +kernel
theorem d_X12_asReached_5 : decode prog_14_method_76_code 5 = .ok (.goto 23, 3) := by decide +kernel
theorem d_X12_asReached_8 : decode prog_14_method_76_code 8 = .ok (.iconst 5, 1) := by decide +kernel
theorem d_X12_asReached_9 : decode prog_14_method_76_code 9 = .ok (.aload_n 0, 1) := by decide +kernel
theorem d_X12_asReached_10 : decode prog_14_method_76_code 10 = .ok (.getfield 167, 3) := by decide +kernel
theorem d_X12_asReached_13 : decode prog_14_method_76_code 13 = .ok (.sipush 400, 3) := by decide +kernel
theorem d_X12_asReached_16 : decode prog_14_method_76_code 16 = .ok (.iload_n 1, 1) := by decide +kernel
theorem d_X12_asReached_17 : decode prog_14_method_76_code 17 = .ok (.imul, 1) := by decide +kernel
theorem d_X12_asReached_18 : decode prog_14_method_76_code 18 = .ok (.iload_n 2, 1) := by decide +kernel
theorem d_X12_asReached_19 : decode prog_14_method_76_code 19 = .ok (.iconst 5, 1) := by decide +kernel
theorem d_X12_asReached_20 : decode prog_14_method_76_code 20 = .ok (.idiv, 1) := by decide +kernel
theorem d_X12_asReached_21 : decode prog_14_method_76_code 21 = .ok (.iadd, 1) := by decide +kernel
theorem d_X12_asReached_22 : decode prog_14_method_76_code 22 = .ok (.iaload, 1) := by decide +kernel
theorem d_X12_asReached_23 : decode prog_14_method_76_code 23 = .ok (.imul, 1) := by decide +kernel
theorem d_X12_asReached_24 : decode prog_14_method_76_code 24 = .ok (.iload_n 2, 1) := by decide +kernel
theorem d_X12_asReached_25 : decode prog_14_method_76_code 25 = .ok (.iconst 5, 1) := by decide +kernel
theorem d_X12_asReached_26 : decode prog_14_method_76_code 26 = .ok (.irem, 1) := by decide +kernel
theorem d_X12_asReached_27 : decode prog_14_method_76_code 27 = .ok (.iadd, 1) := by decide +kernel
theorem d_X12_asReached_28 : decode prog_14_method_76_code 28 = .ok (.ireturn, 1) := by decide +kernel
theorem d_X12_asTold_0 : decode prog_14_method_52_code 0 = .ok (.iload_n 0, 1) := by decide +kernel
theorem d_X12_asTold_1 : decode prog_14_method_52_code 1 = .ok (.ifCond .ge 7, 3) := by decide +kernel
theorem d_X12_asTold_4 : decode prog_14_method_52_code 4 = .ok (.iload_n 0, 1) := by decide +kernel
theorem d_X12_asTold_5 : decode prog_14_method_52_code 5 = .ok (.goto 13, 3) := by decide +kernel
theorem d_X12_asTold_8 : decode prog_14_method_52_code 8 = .ok (.bipush 8, 2) := by decide +kernel
theorem d_X12_asTold_10 : decode prog_14_method_52_code 10 = .ok (.iload_n 0, 1) := by decide +kernel
theorem d_X12_asTold_11 : decode prog_14_method_52_code 11 = .ok (.iconst 5, 1) := by decide +kernel
theorem d_X12_asTold_12 : decode prog_14_method_52_code 12 = .ok (.idiv, 1) := by decide +kernel
theorem d_X12_asTold_13 : decode prog_14_method_52_code 13 = .ok (.imul, 1) := by decide +kernel
theorem d_X12_asTold_14 : decode prog_14_method_52_code 14 = .ok (.iload_n 0, 1) := by decide +kernel
theorem d_X12_asTold_15 : decode prog_14_method_52_code 15 = .ok (.iconst 5, 1) := by decide +kernel
theorem d_X12_asTold_16 : decode prog_14_method_52_code 16 = .ok (.irem, 1) := by decide +kernel
theorem d_X12_asTold_17 : decode prog_14_method_52_code 17 = .ok (.iadd, 1) := by decide +kernel
theorem d_X12_asTold_18 : decode prog_14_method_52_code 18 = .ok (.ireturn, 1) := by decide +kernel
theorem d_X12_isShelf_0 : decode prog_14_method_68_code 0 = .ok (.iload_n 0, 1) := by decide +kernel
theorem d_X12_isShelf_1 : decode prog_14_method_68_code 1 = .ok (.i2l, 1) := by decide +kernel
theorem d_X12_isShelf_2 : decode prog_14_method_68_code 2 = .ok (.lconst 0, 1) := by decide +kernel
theorem d_X12_isShelf_3 : decode prog_14_method_68_code 3 = .ok (.ldc2_w 437, 3) := by decide +kernel
theorem d_X12_isShelf_6 : decode prog_14_method_68_code 6 = .ok (.invokestatic 191, 3) := by decide +kernel
theorem d_X12_isShelf_9 : decode prog_14_method_68_code 9 = .ok (.ireturn, 1) := by decide +kernel
theorem d_X12_back_0 : decode prog_14_method_70_code 0 = .ok (.iload_n 1, 1) := by decide +kernel
theorem d_X12_back_1 : decode prog_14_method_70_code 1 = .ok (.invokestatic 447, 3) := by decide +kernel
theorem d_X12_back_4 : decode prog_14_method_70_code 4 = .ok (.ifCond .ne 7, 3) := by decide +kernel
theorem d_X12_back_7 : decode prog_14_method_70_code 7 = .ok (.sipush (-1001), 3) := by decide +kernel
theorem d_X12_back_10 : decode prog_14_method_70_code 10 = .ok (.ireturn, 1) := by decide +kernel
theorem d_X12_back_11 : decode prog_14_method_70_code 11 = .ok (.aload_n 0, 1) := by decide +kernel
theorem d_X12_back_12 : decode prog_14_method_70_code 12 = .ok (.getfield 158, 3) := by decide +kernel
theorem d_X12_back_15 : decode prog_14_method_70_code 15 = .ok (.iload_n 1, 1) := by decide +kernel
theorem d_X12_back_16 : decode prog_14_method_70_code 16 = .ok (.iaload, 1) := by decide +kernel
theorem d_X12_back_17 : decode prog_14_method_70_code 17 = .ok (.ifCond .ge 7, 3) := by decide +kernel
theorem d_X12_back_20 : decode prog_14_method_70_code 20 = .ok (.sipush (-1003), 3) := by decide +kernel
theorem d_X12_back_23 : decode prog_14_method_70_code 23 = .ok (.ireturn, 1) := by decide +kernel
theorem d_X12_back_24 : decode prog_14_method_70_code 24 = .ok (.iconst 0, 1) := by decide +kernel
theorem d_X12_back_25 : decode prog_14_method_70_code 25 = .ok (.istore_n 2, 1) := by decide +kernel
theorem d_X12_back_26 : decode prog_14_method_70_code 26 = .ok (.iload_n 2, 1) := by decide +kernel
theorem d_X12_back_27 : decode prog_14_method_70_code 27 = .ok (.sipush 400, 3) := by decide +kernel
theorem d_X12_back_30 : decode prog_14_method_70_code 30 = .ok (.if_icmp .ge 27, 3) := by decide +kernel
theorem d_X12_back_33 : decode prog_14_method_70_code 33 = .ok (.aload_n 0, 1) := by decide +kernel
theorem d_X12_back_34 : decode prog_14_method_70_code 34 = .ok (.getfield 49, 3) := by decide +kernel
theorem d_X12_back_37 : decode prog_14_method_70_code 37 = .ok (.iload_n 2, 1) := by decide +kernel
theorem d_X12_back_38 : decode prog_14_method_70_code 38 = .ok (.aload_n 0, 1) := by decide +kernel
theorem d_X12_back_39 : decode prog_14_method_70_code 39 = .ok (.getfield 149, 3) := by decide +kernel
theorem d_X12_back_42 : decode prog_14_method_70_code 42 = .ok (.sipush 400, 3) := by decide +kernel
theorem d_X12_back_45 : decode prog_14_method_70_code 45 = .ok (.iload_n 1, 1) := by decide +kernel
theorem d_X12_back_46 : decode prog_14_method_70_code 46 = .ok (.imul, 1) := by decide +kernel
theorem d_X12_back_47 : decode prog_14_method_70_code 47 = .ok (.iload_n 2, 1) := by decide +kernel
theorem d_X12_back_48 : decode prog_14_method_70_code 48 = .ok (.iadd, 1) := by decide +kernel
theorem d_X12_back_49 : decode prog_14_method_70_code 49 = .ok (.iaload, 1) := by decide +kernel
theorem d_X12_back_50 : decode prog_14_method_70_code 50 = .ok (.iastore, 1) := by decide +kernel
theorem d_X12_back_51 : decode prog_14_method_70_code 51 = .ok (.iinc 2 1, 3) := by decide +kernel
theorem d_X12_back_54 : decode prog_14_method_70_code 54 = .ok (.goto (-28), 3) := by decide +kernel
theorem d_X12_back_57 : decode prog_14_method_70_code 57 = .ok (.iconst 0, 1) := by decide +kernel
theorem d_X12_back_58 : decode prog_14_method_70_code 58 = .ok (.istore_n 2, 1) := by decide +kernel
theorem d_X12_back_59 : decode prog_14_method_70_code 59 = .ok (.iload_n 2, 1) := by decide +kernel
theorem d_X12_back_60 : decode prog_14_method_70_code 60 = .ok (.sipush 2000, 3) := by decide +kernel
theorem d_X12_back_63 : decode prog_14_method_70_code 63 = .ok (.if_icmp .ge 27, 3) := by decide +kernel
theorem d_X12_back_66 : decode prog_14_method_70_code 66 = .ok (.aload_n 0, 1) := by decide +kernel
theorem d_X12_back_67 : decode prog_14_method_70_code 67 = .ok (.getfield 52, 3) := by decide +kernel
theorem d_X12_back_70 : decode prog_14_method_70_code 70 = .ok (.iload_n 2, 1) := by decide +kernel
theorem d_X12_back_71 : decode prog_14_method_70_code 71 = .ok (.aload_n 0, 1) := by decide +kernel
theorem d_X12_back_72 : decode prog_14_method_70_code 72 = .ok (.getfield 152, 3) := by decide +kernel
theorem d_X12_back_75 : decode prog_14_method_70_code 75 = .ok (.sipush 2000, 3) := by decide +kernel
theorem d_X12_back_78 : decode prog_14_method_70_code 78 = .ok (.iload_n 1, 1) := by decide +kernel
theorem d_X12_back_79 : decode prog_14_method_70_code 79 = .ok (.imul, 1) := by decide +kernel
theorem d_X12_back_80 : decode prog_14_method_70_code 80 = .ok (.iload_n 2, 1) := by decide +kernel
theorem d_X12_back_81 : decode prog_14_method_70_code 81 = .ok (.iadd, 1) := by decide +kernel
theorem d_X12_back_82 : decode prog_14_method_70_code 82 = .ok (.iaload, 1) := by decide +kernel
theorem d_X12_back_83 : decode prog_14_method_70_code 83 = .ok (.iastore, 1) := by decide +kernel
theorem d_X12_back_84 : decode prog_14_method_70_code 84 = .ok (.iinc 2 1, 3) := by decide +kernel
theorem d_X12_back_87 : decode prog_14_method_70_code 87 = .ok (.goto (-28), 3) := by decide +kernel
theorem d_X12_back_90 : decode prog_14_method_70_code 90 = .ok (.iconst 0, 1) := by decide +kernel
theorem d_X12_back_91 : decode prog_14_method_70_code 91 = .ok (.istore_n 2, 1) := by decide +kernel
theorem d_X12_back_92 : decode prog_14_method_70_code 92 = .ok (.iload_n 2, 1) := by decide +kernel
theorem d_X12_back_93 : decode prog_14_method_70_code 93 = .ok (.bipush 8, 2) := by decide +kernel
theorem d_X12_back_95 : decode prog_14_method_70_code 95 = .ok (.if_icmp .ge 26, 3) := by decide +kernel
theorem d_X12_back_98 : decode prog_14_method_70_code 98 = .ok (.aload_n 0, 1) := by decide +kernel
theorem d_X12_back_99 : decode prog_14_method_70_code 99 = .ok (.getfield 55, 3) := by decide +kernel
theorem d_X12_back_102 : decode prog_14_method_70_code 102 = .ok (.iload_n 2, 1) := by decide +kernel
theorem d_X12_back_103 : decode prog_14_method_70_code 103 = .ok (.aload_n 0, 1) := by decide +kernel
theorem d_X12_back_104 : decode prog_14_method_70_code 104 = .ok (.getfield 155, 3) := by decide +kernel
theorem d_X12_back_107 : decode prog_14_method_70_code 107 = .ok (.bipush 8, 2) := by decide +kernel
theorem d_X12_back_109 : decode prog_14_method_70_code 109 = .ok (.iload_n 1, 1) := by decide +kernel
theorem d_X12_back_110 : decode prog_14_method_70_code 110 = .ok (.imul, 1) := by decide +kernel
theorem d_X12_back_111 : decode prog_14_method_70_code 111 = .ok (.iload_n 2, 1) := by decide +kernel
theorem d_X12_back_112 : decode prog_14_method_70_code 112 = .ok (.iadd, 1) := by decide +kernel
theorem d_X12_back_113 : decode prog_14_method_70_code 113 = .ok (.iaload, 1) := by decide +kernel
theorem d_X12_back_114 : decode prog_14_method_70_code 114 = .ok (.iastore, 1) := by decide +kernel
theorem d_X12_back_115 : decode prog_14_method_70_code 115 = .ok (.iinc 2 1, 3) := by decide +kernel
theorem d_X12_back_118 : decode prog_14_method_70_code 118 = .ok (.goto (-26), 3) := by decide +kernel
theorem d_X12_back_121 : decode prog_14_method_70_code 121 = .ok (.aload_n 0, 1) := by decide +kernel
theorem d_X12_back_122 : decode prog_14_method_70_code 122 = .ok (.aload_n 0, 1) := by decide +kernel
theorem d_X12_back_123 : decode prog_14_method_70_code 123 = .ok (.getfield 158, 3) := by decide +kernel
theorem d_X12_back_126 : decode prog_14_method_70_code 126 = .ok (.iload_n 1, 1) := by decide +kernel
theorem d_X12_back_127 : decode prog_14_method_70_code 127 = .ok (.iaload, 1) := by decide +kernel
theorem d_X12_back_128 : decode prog_14_method_70_code 128 = .ok (.putfield 182, 3) := by decide +kernel
theorem d_X12_back_131 : decode prog_14_method_70_code 131 = .ok (.aload_n 0, 1) := by decide +kernel
theorem d_X12_back_132 : decode prog_14_method_70_code 132 = .ok (.aload_n 0, 1) := by decide +kernel
theorem d_X12_back_133 : decode prog_14_method_70_code 133 = .ok (.getfield 161, 3) := by decide +kernel
theorem d_X12_back_136 : decode prog_14_method_70_code 136 = .ok (.iload_n 1, 1) := by decide +kernel
theorem d_X12_back_137 : decode prog_14_method_70_code 137 = .ok (.iaload, 1) := by decide +kernel
theorem d_X12_back_138 : decode prog_14_method_70_code 138 = .ok (.putfield 185, 3) := by decide +kernel
theorem d_X12_back_141 : decode prog_14_method_70_code 141 = .ok (.aload_n 0, 1) := by decide +kernel
theorem d_X12_back_142 : decode prog_14_method_70_code 142 = .ok (.invokevirtual 388, 3) := by decide +kernel
theorem d_X12_back_145 : decode prog_14_method_70_code 145 = .ok (.istore_n 2, 1) := by decide +kernel
theorem d_X12_back_146 : decode prog_14_method_70_code 146 = .ok (.aload_n 0, 1) := by decide +kernel
theorem d_X12_back_147 : decode prog_14_method_70_code 147 = .ok (.iload_n 2, 1) := by decide +kernel
theorem d_X12_back_148 : decode prog_14_method_70_code 148 = .ok (.aload_n 0, 1) := by decide +kernel
theorem d_X12_back_149 : decode prog_14_method_70_code 149 = .ok (.getfield 363, 3) := by decide +kernel
theorem d_X12_back_152 : decode prog_14_method_70_code 152 = .ok (.if_icmp .le 7, 3) := by decide +kernel
theorem d_X12_back_155 : decode prog_14_method_70_code 155 = .ok (.iload_n 2, 1) := by decide +kernel
theorem d_X12_back_156 : decode prog_14_method_70_code 156 = .ok (.goto 7, 3) := by decide +kernel
theorem d_X12_back_159 : decode prog_14_method_70_code 159 = .ok (.aload_n 0, 1) := by decide +kernel
theorem d_X12_back_160 : decode prog_14_method_70_code 160 = .ok (.getfield 363, 3) := by decide +kernel
theorem d_X12_back_163 : decode prog_14_method_70_code 163 = .ok (.putfield 363, 3) := by decide +kernel
theorem d_X12_back_166 : decode prog_14_method_70_code 166 = .ok (.iload_n 2, 1) := by decide +kernel
theorem d_X12_back_167 : decode prog_14_method_70_code 167 = .ok (.ireturn, 1) := by decide +kernel
theorem d_X12_beginSheet_0 : decode prog_14_method_20_code 0 = .ok (.aload_n 0, 1) := by decide +kernel
theorem d_X12_beginSheet_1 : decode prog_14_method_20_code 1 = .ok (.iconst 0, 1) := by decide +kernel
theorem d_X12_beginSheet_2 : decode prog_14_method_20_code 2 = .ok (.putfield 261, 3) := by decide +kernel
theorem d_X12_beginSheet_5 : decode prog_14_method_20_code 5 = .ok (.aload_n 0, 1) := by decide +kernel
theorem d_X12_beginSheet_6 : decode prog_14_method_20_code 6 = .ok (.iload_n 1, 1) := by decide +kernel
theorem d_X12_beginSheet_7 : decode prog_14_method_20_code 7 = .ok (.putfield 264, 3) := by decide +kernel
theorem d_X12_beginSheet_10 : decode prog_14_method_20_code 10 = .ok (.aload_n 0, 1) := by decide +kernel
theorem d_X12_beginSheet_11 : decode prog_14_method_20_code 11 = .ok (.iconst 0, 1) := by decide +kernel
theorem d_X12_beginSheet_12 : decode prog_14_method_20_code 12 = .ok (.putfield 267, 3) := by decide +kernel
theorem d_X12_beginSheet_15 : decode prog_14_method_20_code 15 = .ok (.return_, 1) := by decide +kernel
theorem d_X12_byteAt_0 : decode prog_14_method_7_code 0 = .ok (.iload_n 1, 1) := by decide +kernel
theorem d_X12_byteAt_1 : decode prog_14_method_7_code 1 = .ok (.aload_n 0, 1) := by decide +kernel
theorem d_X12_byteAt_2 : decode prog_14_method_7_code 2 = .ok (.getfield 188, 3) := by decide +kernel
theorem d_X12_byteAt_5 : decode prog_14_method_7_code 5 = .ok (.if_icmp .ge 12, 3) := by decide +kernel
theorem d_X12_byteAt_8 : decode prog_14_method_7_code 8 = .ok (.aload_n 0, 1) := by decide +kernel
theorem d_X12_byteAt_9 : decode prog_14_method_7_code 9 = .ok (.getfield 7, 3) := by decide +kernel
theorem d_X12_byteAt_12 : decode prog_14_method_7_code 12 = .ok (.iload_n 1, 1) := by decide +kernel
theorem d_X12_byteAt_13 : decode prog_14_method_7_code 13 = .ok (.iaload, 1) := by decide +kernel
theorem d_X12_byteAt_14 : decode prog_14_method_7_code 14 = .ok (.goto 4, 3) := by decide +kernel
theorem d_X12_byteAt_17 : decode prog_14_method_7_code 17 = .ok (.iconst 0, 1) := by decide +kernel
theorem d_X12_byteAt_18 : decode prog_14_method_7_code 18 = .ok (.ireturn, 1) := by decide +kernel
theorem d_X12_facing_0 : decode prog_14_method_42_code 0 = .ok (.aload_n 0, 1) := by decide +kernel
theorem d_X12_facing_1 : decode prog_14_method_42_code 1 = .ok (.getfield 49, 3) := by decide +kernel
theorem d_X12_facing_4 : decode prog_14_method_42_code 4 = .ok (.iload_n 1, 1) := by decide +kernel
theorem d_X12_facing_5 : decode prog_14_method_42_code 5 = .ok (.iaload, 1) := by decide +kernel
theorem d_X12_facing_6 : decode prog_14_method_42_code 6 = .ok (.ifCond .lt 14, 3) := by decide +kernel
theorem d_X12_facing_9 : decode prog_14_method_42_code 9 = .ok (.aload_n 0, 1) := by decide +kernel
theorem d_X12_facing_10 : decode prog_14_method_42_code 10 = .ok (.getfield 52, 3) := by decide +kernel
theorem d_X12_facing_13 : decode prog_14_method_42_code 13 = .ok (.iconst 5, 1) := by decide +kernel
theorem d_X12_facing_14 : decode prog_14_method_42_code 14 = .ok (.iload_n 1, 1) := by decide +kernel
theorem d_X12_facing_15 : decode prog_14_method_42_code 15 = .ok (.imul, 1) := by decide +kernel
theorem d_X12_facing_16 : decode prog_14_method_42_code 16 = .ok (.iaload, 1) := by decide +kernel
theorem d_X12_facing_17 : decode prog_14_method_42_code 17 = .ok (.goto 4, 3) := by decide +kernel
theorem d_X12_facing_20 : decode prog_14_method_42_code 20 = .ok (.iconst (-1), 1) := by decide +kernel
theorem d_X12_facing_21 : decode prog_14_method_42_code 21 = .ok (.istore_n 2, 1) := by decide +kernel
theorem d_X12_facing_22 : decode prog_14_method_42_code 22 = .ok (.iload_n 2, 1) := by decide +kernel
theorem d_X12_facing_23 : decode prog_14_method_42_code 23 = .ok (.ifCond .lt 15, 3) := by decide +kernel
theorem d_X12_facing_26 : decode prog_14_method_42_code 26 = .ok (.iload_n 2, 1) := by decide +kernel
theorem d_X12_facing_27 : decode prog_14_method_42_code 27 = .ok (.iconst 5, 1) := by decide +kernel
theorem d_X12_facing_28 : decode prog_14_method_42_code 28 = .ok (.irem, 1) := by decide +kernel
theorem d_X12_facing_29 : decode prog_14_method_42_code 29 = .ok (.ifCond .ne 9, 3) := by decide +kernel
theorem d_X12_facing_32 : decode prog_14_method_42_code 32 = .ok (.iload_n 2, 1) := by decide +kernel
theorem d_X12_facing_33 : decode prog_14_method_42_code 33 = .ok (.iconst 5, 1) := by decide +kernel
theorem d_X12_facing_34 : decode prog_14_method_42_code 34 = .ok (.idiv, 1) := by decide +kernel
theorem d_X12_facing_35 : decode prog_14_method_42_code 35 = .ok (.goto 4, 3) := by decide +kernel
theorem d_X12_facing_38 : decode prog_14_method_42_code 38 = .ok (.iconst (-1), 1) := by decide +kernel
theorem d_X12_facing_39 : decode prog_14_method_42_code 39 = .ok (.ireturn, 1) := by decide +kernel
theorem d_X12_ruleFor_0 : decode prog_14_method_43_code 0 = .ok (.aload_n 0, 1) := by decide +kernel
theorem d_X12_ruleFor_1 : decode prog_14_method_43_code 1 = .ok (.getfield 31, 3) := by decide +kernel
theorem d_X12_ruleFor_4 : decode prog_14_method_43_code 4 = .ok (.bipush 16, 2) := by decide +kernel
theorem d_X12_ruleFor_6 : decode prog_14_method_43_code 6 = .ok (.aload_n 0, 1) := by decide +kernel
theorem d_X12_ruleFor_7 : decode prog_14_method_43_code 7 = .ok (.getfield 49, 3) := by decide +kernel
theorem d_X12_ruleFor_10 : decode prog_14_method_43_code 10 = .ok (.iload_n 1, 1) := by decide +kernel
theorem d_X12_ruleFor_11 : decode prog_14_method_43_code 11 = .ok (.iaload, 1) := by decide +kernel
theorem d_X12_ruleFor_12 : decode prog_14_method_43_code 12 = .ok (.imul, 1) := by decide +kernel
theorem d_X12_ruleFor_13 : decode prog_14_method_43_code 13 = .ok (.aload_n 0, 1) := by decide +kernel
theorem d_X12_ruleFor_14 : decode prog_14_method_43_code 14 = .ok (.getfield 49, 3) := by decide +kernel
theorem d_X12_ruleFor_17 : decode prog_14_method_43_code 17 = .ok (.iload_n 2, 1) := by decide +kernel
theorem d_X12_ruleFor_18 : decode prog_14_method_43_code 18 = .ok (.iaload, 1) := by decide +kernel
theorem d_X12_ruleFor_19 : decode prog_14_method_43_code 19 = .ok (.iadd, 1) := by decide +kernel
theorem d_X12_ruleFor_20 : decode prog_14_method_43_code 20 = .ok (.iaload, 1) := by decide +kernel
theorem d_X12_ruleFor_21 : decode prog_14_method_43_code 21 = .ok (.ireturn, 1) := by decide +kernel
theorem d_X12_isPair_0 : decode prog_14_method_44_code 0 = .ok (.aload_n 0, 1) := by decide +kernel
theorem d_X12_isPair_1 : decode prog_14_method_44_code 1 = .ok (.iload_n 1, 1) := by decide +kernel
theorem d_X12_isPair_2 : decode prog_14_method_44_code 2 = .ok (.invokevirtual 374, 3) := by decide +kernel
theorem d_X12_isPair_5 : decode prog_14_method_44_code 5 = .ok (.istore_n 3, 1) := by decide +kernel
theorem d_X12_isPair_6 : decode prog_14_method_44_code 6 = .ok (.iload_n 3, 1) := by decide +kernel
theorem d_X12_isPair_7 : decode prog_14_method_44_code 7 = .ok (.iload_n 1, 1) := by decide +kernel
theorem d_X12_isPair_8 : decode prog_14_method_44_code 8 = .ok (.if_icmp .le 25, 3) := by decide +kernel
theorem d_X12_isPair_11 : decode prog_14_method_44_code 11 = .ok (.aload_n 0, 1) := by decide +kernel
theorem d_X12_isPair_12 : decode prog_14_method_44_code 12 = .ok (.iload_n 1, 1) := by decide +kernel
theorem d_X12_isPair_13 : decode prog_14_method_44_code 13 = .ok (.iload_n 3, 1) := by decide +kernel
theorem d_X12_isPair_14 : decode prog_14_method_44_code 14 = .ok (.invokevirtual 377, 3) := by decide +kernel
theorem d_X12_isPair_17 : decode prog_14_method_44_code 17 = .ok (.ifCond .lt 7, 3) := by decide +kernel
theorem d_X12_isPair_20 : decode prog_14_method_44_code 20 = .ok (.iconst 1, 1) := by decide +kernel
theorem d_X12_isPair_21 : decode prog_14_method_44_code 21 = .ok (.goto 4, 3) := by decide +kernel
theorem d_X12_isPair_24 : decode prog_14_method_44_code 24 = .ok (.iconst 0, 1) := by decide +kernel
theorem d_X12_isPair_25 : decode prog_14_method_44_code 25 = .ok (.iload_n 2, 1) := by decide +kernel
theorem d_X12_isPair_26 : decode prog_14_method_44_code 26 = .ok (.if_icmp .ne 7, 3) := by decide +kernel
theorem d_X12_isPair_29 : decode prog_14_method_44_code 29 = .ok (.iconst 1, 1) := by decide +kernel
theorem d_X12_isPair_30 : decode prog_14_method_44_code 30 = .ok (.goto 4, 3) := by decide +kernel
theorem d_X12_isPair_33 : decode prog_14_method_44_code 33 = .ok (.iconst 0, 1) := by decide +kernel
theorem d_X12_isPair_34 : decode prog_14_method_44_code 34 = .ok (.ireturn, 1) := by decide +kernel
theorem d_X12_pair_0 : decode prog_14_method_55_code 0 = .ok (.iload_n 1, 1) := by decide +kernel
theorem d_X12_pair_1 : decode prog_14_method_55_code 1 = .ok (.istore_n 2, 1) := by decide +kernel
theorem d_X12_pair_2 : decode prog_14_method_55_code 2 = .ok (.iconst 0, 1) := by decide +kernel
theorem d_X12_pair_3 : decode prog_14_method_55_code 3 = .ok (.istore_n 3, 1) := by decide +kernel
theorem d_X12_pair_4 : decode prog_14_method_55_code 4 = .ok (.iload_n 3, 1) := by decide +kernel
theorem d_X12_pair_5 : decode prog_14_method_55_code 5 = .ok (.sipush 400, 3) := by decide +kernel
theorem d_X12_pair_8 : decode prog_14_method_55_code 8 = .ok (.if_icmp .ge 27, 3) := by decide +kernel
theorem d_X12_pair_11 : decode prog_14_method_55_code 11 = .ok (.aload_n 0, 1) := by decide +kernel
theorem d_X12_pair_12 : decode prog_14_method_55_code 12 = .ok (.iload_n 3, 1) := by decide +kernel
theorem d_X12_pair_13 : decode prog_14_method_55_code 13 = .ok (.iconst 1, 1) := by decide +kernel
theorem d_X12_pair_14 : decode prog_14_method_55_code 14 = .ok (.invokevirtual 381, 3) := by decide +kernel
theorem d_X12_pair_17 : decode prog_14_method_55_code 17 = .ok (.ifCond .eq 12, 3) := by decide +kernel
theorem d_X12_pair_20 : decode prog_14_method_55_code 20 = .ok (.iload_n 2, 1) := by decide +kernel
theorem d_X12_pair_21 : decode prog_14_method_55_code 21 = .ok (.ifCond .ne 5, 3) := by decide +kernel
theorem d_X12_pair_24 : decode prog_14_method_55_code 24 = .ok (.iload_n 3, 1) := by decide +kernel
theorem d_X12_pair_25 : decode prog_14_method_55_code 25 = .ok (.ireturn, 1) := by decide +kernel
theorem d_X12_pair_26 : decode prog_14_method_55_code 26 = .ok (.iinc 2 (-1), 3) := by decide +kernel
theorem d_X12_pair_29 : decode prog_14_method_55_code 29 = .ok (.iinc 3 1, 3) := by decide +kernel
theorem d_X12_pair_32 : decode prog_14_method_55_code 32 = .ok (.goto (-28), 3) := by decide +kernel
theorem d_X12_pair_35 : decode prog_14_method_55_code 35 = .ok (.iconst (-1), 1) := by decide +kernel
theorem d_X12_pair_36 : decode prog_14_method_55_code 36 = .ok (.ireturn, 1) := by decide +kernel
theorem d_X12_pairs_0 : decode prog_14_method_45_code 0 = .ok (.iconst 0, 1) := by decide +kernel
theorem d_X12_pairs_1 : decode prog_14_method_45_code 1 = .ok (.istore_n 2, 1) := by decide +kernel
theorem d_X12_pairs_2 : decode prog_14_method_45_code 2 = .ok (.iconst 0, 1) := by decide +kernel
theorem d_X12_pairs_3 : decode prog_14_method_45_code 3 = .ok (.istore_n 3, 1) := by decide +kernel
theorem d_X12_pairs_4 : decode prog_14_method_45_code 4 = .ok (.iload_n 3, 1) := by decide +kernel
theorem d_X12_pairs_5 : decode prog_14_method_45_code 5 = .ok (.sipush 400, 3) := by decide +kernel
theorem d_X12_pairs_8 : decode prog_14_method_45_code 8 = .ok (.if_icmp .ge 26, 3) := by decide +kernel
theorem d_X12_pairs_11 : decode prog_14_method_45_code 11 = .ok (.iload_n 2, 1) := by decide +kernel
theorem d_X12_pairs_12 : decode prog_14_method_45_code 12 = .ok (.aload_n 0, 1) := by decide +kernel
theorem d_X12_pairs_13 : decode prog_14_method_45_code 13 = .ok (.iload_n 3, 1) := by decide +kernel
theorem d_X12_pairs_14 : decode prog_14_method_45_code 14 = .ok (.iload_n 1, 1) := by decide +kernel
theorem d_X12_pairs_15 : decode prog_14_method_45_code 15 = .ok (.invokevirtual 381, 3) := by decide +kernel
theorem d_X12_pairs_18 : decode prog_14_method_45_code 18 = .ok (.ifCond .eq 7, 3) := by decide +kernel
theorem d_X12_pairs_21 : decode prog_14_method_45_code 21 = .ok (.iconst 1, 1) := by decide +kernel
theorem d_X12_pairs_22 : decode prog_14_method_45_code 22 = .ok (.goto 4, 3) := by decide +kernel
theorem d_X12_pairs_25 : decode prog_14_method_45_code 25 = .ok (.iconst 0, 1) := by decide +kernel
theorem d_X12_pairs_26 : decode prog_14_method_45_code 26 = .ok (.iadd, 1) := by decide +kernel
theorem d_X12_pairs_27 : decode prog_14_method_45_code 27 = .ok (.istore_n 2, 1) := by decide +kernel
theorem d_X12_pairs_28 : decode prog_14_method_45_code 28 = .ok (.iinc 3 1, 3) := by decide +kernel
theorem d_X12_pairs_31 : decode prog_14_method_45_code 31 = .ok (.goto (-27), 3) := by decide +kernel
theorem d_X12_pairs_34 : decode prog_14_method_45_code 34 = .ok (.iload_n 2, 1) := by decide +kernel
theorem d_X12_pairs_35 : decode prog_14_method_45_code 35 = .ok (.ireturn, 1) := by decide +kernel
theorem d_X12_chosen_0 : decode prog_14_method_63_code 0 = .ok (.aload_n 0, 1) := by decide +kernel
theorem d_X12_chosen_1 : decode prog_14_method_63_code 1 = .ok (.iconst 1, 1) := by decide +kernel
theorem d_X12_chosen_2 : decode prog_14_method_63_code 2 = .ok (.invokevirtual 391, 3) := by decide +kernel
theorem d_X12_chosen_5 : decode prog_14_method_63_code 5 = .ok (.istore_n 2, 1) := by decide +kernel
theorem d_X12_chosen_6 : decode prog_14_method_63_code 6 = .ok (.iload_n 2, 1) := by decide +kernel
theorem d_X12_chosen_7 : decode prog_14_method_63_code 7 = .ok (.ifCond .ne 5, 3) := by decide +kernel
theorem d_X12_chosen_10 : decode prog_14_method_63_code 10 = .ok (.iconst (-1), 1) := by decide +kernel
theorem d_X12_chosen_11 : decode prog_14_method_63_code 11 = .ok (.ireturn, 1) := by decide +kernel
theorem d_X12_chosen_12 : decode prog_14_method_63_code 12 = .ok (.iload_n 1, 1) := by decide +kernel
theorem d_X12_chosen_13 : decode prog_14_method_63_code 13 = .ok (.iconst 3, 1) := by decide +kernel
theorem d_X12_chosen_14 : decode prog_14_method_63_code 14 = .ok (.if_icmp .ne 19, 3) := by decide +kernel
theorem d_X12_chosen_17 : decode prog_14_method_63_code 17 = .ok (.aload_n 0, 1) := by decide +kernel
theorem d_X12_chosen_18 : decode prog_14_method_63_code 18 = .ok (.aload_n 0, 1) := by decide +kernel
theorem d_X12_chosen_19 : decode prog_14_method_63_code 19 = .ok (.getfield 58, 3) := by decide +kernel
theorem d_X12_chosen_22 : decode prog_14_method_63_code 22 = .ok (.ldc2_w 430, 3) := by decide +kernel
theorem d_X12_chosen_25 : decode prog_14_method_63_code 25 = .ok (.lmul, 1) := by decide +kernel
theorem d_X12_chosen_26 : decode prog_14_method_63_code 26 = .ok (.ldc2_w 432, 3) := by decide +kernel
theorem d_X12_chosen_29 : decode prog_14_method_63_code 29 = .ok (.ladd, 1) := by decide +kernel
theorem d_X12_chosen_30 : decode prog_14_method_63_code 30 = .ok (.putfield 58, 3) := by decide +kernel
theorem d_X12_chosen_33 : decode prog_14_method_63_code 33 = .ok (.aload_n 0, 1) := by decide +kernel
theorem d_X12_chosen_34 : decode prog_14_method_63_code 34 = .ok (.iload_n 1, 1) := by decide +kernel
theorem d_X12_chosen_35 : decode prog_14_method_63_code 35 = .ok (.ifCond .ne 7, 3) := by decide +kernel
theorem d_X12_chosen_38 : decode prog_14_method_63_code 38 = .ok (.iconst 0, 1) := by decide +kernel
theorem d_X12_chosen_39 : decode prog_14_method_63_code 39 = .ok (.goto 25, 3) := by decide +kernel
theorem d_X12_chosen_42 : decode prog_14_method_63_code 42 = .ok (.iload_n 1, 1) := by decide +kernel
theorem d_X12_chosen_43 : decode prog_14_method_63_code 43 = .ok (.iconst 1, 1) := by decide +kernel
theorem d_X12_chosen_44 : decode prog_14_method_63_code 44 = .ok (.if_icmp .ne 9, 3) := by decide +kernel
theorem d_X12_chosen_47 : decode prog_14_method_63_code 47 = .ok (.iload_n 2, 1) := by decide +kernel
theorem d_X12_chosen_48 : decode prog_14_method_63_code 48 = .ok (.iconst 1, 1) := by decide +kernel
theorem d_X12_chosen_49 : decode prog_14_method_63_code 49 = .ok (.isub, 1) := by decide +kernel
theorem d_X12_chosen_50 : decode prog_14_method_63_code 50 = .ok (.goto 14, 3) := by decide +kernel
theorem d_X12_chosen_53 : decode prog_14_method_63_code 53 = .ok (.aload_n 0, 1) := by decide +kernel
theorem d_X12_chosen_54 : decode prog_14_method_63_code 54 = .ok (.getfield 58, 3) := by decide +kernel
theorem d_X12_chosen_57 : decode prog_14_method_63_code 57 = .ok (.bipush 33, 2) := by decide +kernel
theorem d_X12_chosen_59 : decode prog_14_method_63_code 59 = .ok (.lushr, 1) := by decide +kernel
theorem d_X12_chosen_60 : decode prog_14_method_63_code 60 = .ok (.iload_n 2, 1) := by decide +kernel
theorem d_X12_chosen_61 : decode prog_14_method_63_code 61 = .ok (.i2l, 1) := by decide +kernel
theorem d_X12_chosen_62 : decode prog_14_method_63_code 62 = .ok (.lrem, 1) := by decide +kernel
theorem d_X12_chosen_63 : decode prog_14_method_63_code 63 = .ok (.l2i, 1) := by decide +kernel
theorem d_X12_chosen_64 : decode prog_14_method_63_code 64 = .ok (.invokevirtual 434, 3) := by decide +kernel
theorem d_X12_chosen_67 : decode prog_14_method_63_code 67 = .ok (.ireturn, 1) := by decide +kernel
theorem d_X12_waitsFor_0 : decode prog_14_method_46_code 0 = .ok (.aload_n 0, 1) := by decide +kernel
theorem d_X12_waitsFor_1 : decode prog_14_method_46_code 1 = .ok (.getfield 49, 3) := by decide +kernel
theorem d_X12_waitsFor_4 : decode prog_14_method_46_code 4 = .ok (.iload_n 1, 1) := by decide +kernel
theorem d_X12_waitsFor_5 : decode prog_14_method_46_code 5 = .ok (.iaload, 1) := by decide +kernel
theorem d_X12_waitsFor_6 : decode prog_14_method_46_code 6 = .ok (.ifCond .lt 14, 3) := by decide +kernel
theorem d_X12_waitsFor_9 : decode prog_14_method_46_code 9 = .ok (.aload_n 0, 1) := by decide +kernel
theorem d_X12_waitsFor_10 : decode prog_14_method_46_code 10 = .ok (.getfield 52, 3) := by decide +kernel
theorem d_X12_waitsFor_13 : decode prog_14_method_46_code 13 = .ok (.iconst 5, 1) := by decide +kernel
theorem d_X12_waitsFor_14 : decode prog_14_method_46_code 14 = .ok (.iload_n 1, 1) := by decide +kernel
theorem d_X12_waitsFor_15 : decode prog_14_method_46_code 15 = .ok (.imul, 1) := by decide +kernel
theorem d_X12_waitsFor_16 : decode prog_14_method_46_code 16 = .ok (.iaload, 1) := by decide +kernel
theorem d_X12_waitsFor_17 : decode prog_14_method_46_code 17 = .ok (.goto 4, 3) := by decide +kernel
theorem d_X12_waitsFor_20 : decode prog_14_method_46_code 20 = .ok (.iconst (-1), 1) := by decide +kernel
theorem d_X12_waitsFor_21 : decode prog_14_method_46_code 21 = .ok (.istore_n 2, 1) := by decide +kernel
theorem d_X12_waitsFor_22 : decode prog_14_method_46_code 22 = .ok (.iload_n 2, 1) := by decide +kernel
theorem d_X12_waitsFor_23 : decode prog_14_method_46_code 23 = .ok (.ifCond .lt 15, 3) := by decide +kernel
theorem d_X12_waitsFor_26 : decode prog_14_method_46_code 26 = .ok (.iload_n 2, 1) := by decide +kernel
theorem d_X12_waitsFor_27 : decode prog_14_method_46_code 27 = .ok (.iconst 5, 1) := by decide +kernel
theorem d_X12_waitsFor_28 : decode prog_14_method_46_code 28 = .ok (.irem, 1) := by decide +kernel
theorem d_X12_waitsFor_29 : decode prog_14_method_46_code 29 = .ok (.ifCond .eq 9, 3) := by decide +kernel
theorem d_X12_waitsFor_32 : decode prog_14_method_46_code 32 = .ok (.iload_n 2, 1) := by decide +kernel
theorem d_X12_waitsFor_33 : decode prog_14_method_46_code 33 = .ok (.iconst 5, 1) := by decide +kernel
theorem d_X12_waitsFor_34 : decode prog_14_method_46_code 34 = .ok (.idiv, 1) := by decide +kernel
theorem d_X12_waitsFor_35 : decode prog_14_method_46_code 35 = .ok (.goto 4, 3) := by decide +kernel
theorem d_X12_waitsFor_38 : decode prog_14_method_46_code 38 = .ok (.iconst (-1), 1) := by decide +kernel
theorem d_X12_waitsFor_39 : decode prog_14_method_46_code 39 = .ok (.ireturn, 1) := by decide +kernel
theorem d_X12_circles_0 : decode prog_14_method_47_code 0 = .ok (.iconst 0, 1) := by decide +kernel
theorem d_X12_circles_1 : decode prog_14_method_47_code 1 = .ok (.istore_n 1, 1) := by decide +kernel
theorem d_X12_circles_2 : decode prog_14_method_47_code 2 = .ok (.iconst 0, 1) := by decide +kernel
theorem d_X12_circles_3 : decode prog_14_method_47_code 3 = .ok (.istore_n 2, 1) := by decide +kernel
theorem d_X12_circles_4 : decode prog_14_method_47_code 4 = .ok (.iload_n 2, 1) := by decide +kernel
theorem d_X12_circles_5 : decode prog_14_method_47_code 5 = .ok (.sipush 400, 3) := by decide +kernel
theorem d_X12_circles_8 : decode prog_14_method_47_code 8 = .ok (.if_icmp .ge 56, 3) := by decide +kernel
theorem d_X12_circles_11 : decode prog_14_method_47_code 11 = .ok (.aload_n 0, 1) := by decide +kernel
theorem d_X12_circles_12 : decode prog_14_method_47_code 12 = .ok (.iload_n 2, 1) := by decide +kernel
theorem d_X12_circles_13 : decode prog_14_method_47_code 13 = .ok (.invokevirtual 385, 3) := by decide +kernel
theorem d_X12_circles_16 : decode prog_14_method_47_code 16 = .ok (.istore_n 3, 1) := by decide +kernel
theorem d_X12_circles_17 : decode prog_14_method_47_code 17 = .ok (.iconst 0, 1) := by decide +kernel
theorem d_X12_circles_18 : decode prog_14_method_47_code 18 = .ok (.istore 4, 2) := by decide +kernel
theorem d_X12_circles_20 : decode prog_14_method_47_code 20 = .ok (.iload 4, 2) := by decide +kernel
theorem d_X12_circles_22 : decode prog_14_method_47_code 22 = .ok (.sipush 400, 3) := by decide +kernel
theorem d_X12_circles_25 : decode prog_14_method_47_code 25 = .ok (.if_icmp .ge 20, 3) := by decide +kernel
theorem d_X12_circles_28 : decode prog_14_method_47_code 28 = .ok (.iload_n 3, 1) := by decide +kernel
theorem d_X12_circles_29 : decode prog_14_method_47_code 29 = .ok (.iload_n 2, 1) := by decide +kernel
theorem d_X12_circles_30 : decode prog_14_method_47_code 30 = .ok (.if_icmp .le 15, 3) := by decide +kernel
theorem d_X12_circles_33 : decode prog_14_method_47_code 33 = .ok (.aload_n 0, 1) := by decide +kernel
theorem d_X12_circles_34 : decode prog_14_method_47_code 34 = .ok (.iload_n 3, 1) := by decide +kernel
theorem d_X12_circles_35 : decode prog_14_method_47_code 35 = .ok (.invokevirtual 385, 3) := by decide +kernel
theorem d_X12_circles_38 : decode prog_14_method_47_code 38 = .ok (.istore_n 3, 1) := by decide +kernel
theorem d_X12_circles_39 : decode prog_14_method_47_code 39 = .ok (.iinc 4 1, 3) := by decide +kernel
theorem d_X12_circles_42 : decode prog_14_method_47_code 42 = .ok (.goto (-22), 3) := by decide +kernel
theorem d_X12_circles_45 : decode prog_14_method_47_code 45 = .ok (.iload_n 1, 1) := by decide +kernel
theorem d_X12_circles_46 : decode prog_14_method_47_code 46 = .ok (.iload_n 3, 1) := by decide +kernel
theorem d_X12_circles_47 : decode prog_14_method_47_code 47 = .ok (.iload_n 2, 1) := by decide +kernel
theorem d_X12_circles_48 : decode prog_14_method_47_code 48 = .ok (.if_icmp .ne 7, 3) := by decide +kernel
theorem d_X12_circles_51 : decode prog_14_method_47_code 51 = .ok (.iconst 1, 1) := by decide +kernel
theorem d_X12_circles_52 : decode prog_14_method_47_code 52 = .ok (.goto 4, 3) := by decide +kernel
theorem d_X12_circles_55 : decode prog_14_method_47_code 55 = .ok (.iconst 0, 1) := by decide +kernel
theorem d_X12_circles_56 : decode prog_14_method_47_code 56 = .ok (.iadd, 1) := by decide +kernel
theorem d_X12_circles_57 : decode prog_14_method_47_code 57 = .ok (.istore_n 1, 1) := by decide +kernel
theorem d_X12_circles_58 : decode prog_14_method_47_code 58 = .ok (.iinc 2 1, 3) := by decide +kernel
theorem d_X12_circles_61 : decode prog_14_method_47_code 61 = .ok (.goto (-57), 3) := by decide +kernel
theorem d_X12_circles_64 : decode prog_14_method_47_code 64 = .ok (.iload_n 1, 1) := by decide +kernel
theorem d_X12_circles_65 : decode prog_14_method_47_code 65 = .ok (.ireturn, 1) := by decide +kernel
theorem d_X12_count_0 : decode prog_14_method_48_code 0 = .ok (.iload_n 1, 1) := by decide +kernel
theorem d_X12_count_1 : decode prog_14_method_48_code 1 = .ok (.tableswitch 134 0 12 #[67, 72, 77, 82, 87, 92, 98, 104, 109, 114, 119, 124, 129], 67) := by decide +kernel
theorem d_X12_count_68 : decode prog_14_method_48_code 68 = .ok (.aload_n 0, 1) := by decide +kernel
theorem d_X12_count_69 : decode prog_14_method_48_code 69 = .ok (.getfield 354, 3) := by decide +kernel
theorem d_X12_count_72 : decode prog_14_method_48_code 72 = .ok (.ireturn, 1) := by decide +kernel
theorem d_X12_count_73 : decode prog_14_method_48_code 73 = .ok (.aload_n 0, 1) := by decide +kernel
theorem d_X12_count_74 : decode prog_14_method_48_code 74 = .ok (.getfield 357, 3) := by decide +kernel
theorem d_X12_count_77 : decode prog_14_method_48_code 77 = .ok (.ireturn, 1) := by decide +kernel
theorem d_X12_count_78 : decode prog_14_method_48_code 78 = .ok (.aload_n 0, 1) := by decide +kernel
theorem d_X12_count_79 : decode prog_14_method_48_code 79 = .ok (.invokevirtual 388, 3) := by decide +kernel
theorem d_X12_count_82 : decode prog_14_method_48_code 82 = .ok (.ireturn, 1) := by decide +kernel
theorem d_X12_count_83 : decode prog_14_method_48_code 83 = .ok (.aload_n 0, 1) := by decide +kernel
theorem d_X12_count_84 : decode prog_14_method_48_code 84 = .ok (.getfield 182, 3) := by decide +kernel
theorem d_X12_count_87 : decode prog_14_method_48_code 87 = .ok (.ireturn, 1) := by decide +kernel
theorem d_X12_count_88 : decode prog_14_method_48_code 88 = .ok (.aload_n 0, 1) := by decide +kernel
theorem d_X12_count_89 : decode prog_14_method_48_code 89 = .ok (.getfield 185, 3) := by decide +kernel
theorem d_X12_count_92 : decode prog_14_method_48_code 92 = .ok (.ireturn, 1) := by decide +kernel
theorem d_X12_count_93 : decode prog_14_method_48_code 93 = .ok (.aload_n 0, 1) := by decide +kernel
theorem d_X12_count_94 : decode prog_14_method_48_code 94 = .ok (.iconst 1, 1) := by decide +kernel
theorem d_X12_count_95 : decode prog_14_method_48_code 95 = .ok (.invokevirtual 391, 3) := by decide +kernel
theorem d_X12_count_98 : decode prog_14_method_48_code 98 = .ok (.ireturn, 1) := by decide +kernel
theorem d_X12_count_99 : decode prog_14_method_48_code 99 = .ok (.aload_n 0, 1) := by decide +kernel
theorem d_X12_count_100 : decode prog_14_method_48_code 100 = .ok (.iconst 0, 1) := by decide +kernel
theorem d_X12_count_101 : decode prog_14_method_48_code 101 = .ok (.invokevirtual 391, 3) := by decide +kernel
theorem d_X12_count_104 : decode prog_14_method_48_code 104 = .ok (.ireturn, 1) := by decide +kernel
theorem d_X12_count_105 : decode prog_14_method_48_code 105 = .ok (.aload_n 0, 1) := by decide +kernel
theorem d_X12_count_106 : decode prog_14_method_48_code 106 = .ok (.invokevirtual 395, 3) := by decide +kernel
theorem d_X12_count_109 : decode prog_14_method_48_code 109 = .ok (.ireturn, 1) := by decide +kernel
theorem d_X12_count_110 : decode prog_14_method_48_code 110 = .ok (.aload_n 0, 1) := by decide +kernel
theorem d_X12_count_111 : decode prog_14_method_48_code 111 = .ok (.getfield 360, 3) := by decide +kernel
theorem d_X12_count_114 : decode prog_14_method_48_code 114 = .ok (.ireturn, 1) := by decide +kernel
theorem d_X12_count_115 : decode prog_14_method_48_code 115 = .ok (.aload_n 0, 1) := by decide +kernel
theorem d_X12_count_116 : decode prog_14_method_48_code 116 = .ok (.getfield 363, 3) := by decide +kernel
theorem d_X12_count_119 : decode prog_14_method_48_code 119 = .ok (.ireturn, 1) := by decide +kernel
theorem d_X12_count_120 : decode prog_14_method_48_code 120 = .ok (.aload_n 0, 1) := by decide +kernel
theorem d_X12_count_121 : decode prog_14_method_48_code 121 = .ok (.getfield 366, 3) := by decide +kernel
theorem d_X12_count_124 : decode prog_14_method_48_code 124 = .ok (.ireturn, 1) := by decide +kernel
theorem d_X12_count_125 : decode prog_14_method_48_code 125 = .ok (.aload_n 0, 1) := by decide +kernel
theorem d_X12_count_126 : decode prog_14_method_48_code 126 = .ok (.getfield 398, 3) := by decide +kernel
theorem d_X12_count_129 : decode prog_14_method_48_code 129 = .ok (.ireturn, 1) := by decide +kernel
theorem d_X12_count_130 : decode prog_14_method_48_code 130 = .ok (.aload_n 0, 1) := by decide +kernel
theorem d_X12_count_131 : decode prog_14_method_48_code 131 = .ok (.getfield 401, 3) := by decide +kernel
theorem d_X12_count_134 : decode prog_14_method_48_code 134 = .ok (.ireturn, 1) := by decide +kernel
theorem d_X12_count_135 : decode prog_14_method_48_code 135 = .ok (.sipush (-1002), 3) := by decide +kernel
theorem d_X12_count_138 : decode prog_14_method_48_code 138 = .ok (.ireturn, 1) := by decide +kernel
theorem d_X12_cut_0 : decode prog_14_method_6_code 0 = .ok (.iload_n 1, 1) := by decide +kernel
theorem d_X12_cut_1 : decode prog_14_method_6_code 1 = .ok (.i2l, 1) := by decide +kernel
theorem d_X12_cut_2 : decode prog_14_method_6_code 2 = .ok (.lconst 0, 1) := by decide +kernel
theorem d_X12_cut_3 : decode prog_14_method_6_code 3 = .ok (.aload_n 0, 1) := by decide +kernel
theorem d_X12_cut_4 : decode prog_14_method_6_code 4 = .ok (.getfield 188, 3) := by decide +kernel
theorem d_X12_cut_7 : decode prog_14_method_6_code 7 = .ok (.i2l, 1) := by decide +kernel
theorem d_X12_cut_8 : decode prog_14_method_6_code 8 = .ok (.invokestatic 191, 3) := by decide +kernel
theorem d_X12_cut_11 : decode prog_14_method_6_code 11 = .ok (.ifCond .ne 7, 3) := by decide +kernel
theorem d_X12_cut_14 : decode prog_14_method_6_code 14 = .ok (.sipush (-1002), 3) := by decide +kernel
theorem d_X12_cut_17 : decode prog_14_method_6_code 17 = .ok (.ireturn, 1) := by decide +kernel
theorem d_X12_cut_18 : decode prog_14_method_6_code 18 = .ok (.aload_n 0, 1) := by decide +kernel
theorem d_X12_cut_19 : decode prog_14_method_6_code 19 = .ok (.getfield 188, 3) := by decide +kernel
theorem d_X12_cut_22 : decode prog_14_method_6_code 22 = .ok (.iload_n 1, 1) := by decide +kernel
theorem d_X12_cut_23 : decode prog_14_method_6_code 23 = .ok (.isub, 1) := by decide +kernel
theorem d_X12_cut_24 : decode prog_14_method_6_code 24 = .ok (.istore_n 2, 1) := by decide +kernel
theorem d_X12_cut_25 : decode prog_14_method_6_code 25 = .ok (.aload_n 0, 1) := by decide +kernel
theorem d_X12_cut_26 : decode prog_14_method_6_code 26 = .ok (.iload_n 1, 1) := by decide +kernel
theorem d_X12_cut_27 : decode prog_14_method_6_code 27 = .ok (.putfield 188, 3) := by decide +kernel
theorem d_X12_cut_30 : decode prog_14_method_6_code 30 = .ok (.iload_n 2, 1) := by decide +kernel
theorem d_X12_cut_31 : decode prog_14_method_6_code 31 = .ok (.ireturn, 1) := by decide +kernel
theorem d_X12_findOuter_0 : decode prog_14_method_61_code 0 = .ok (.iconst 0, 1) := by decide +kernel
theorem d_X12_findOuter_1 : decode prog_14_method_61_code 1 = .ok (.istore_n 3, 1) := by decide +kernel
theorem d_X12_findOuter_2 : decode prog_14_method_61_code 2 = .ok (.iload_n 3, 1) := by decide +kernel
theorem d_X12_findOuter_3 : decode prog_14_method_61_code 3 = .ok (.bipush 10, 2) := by decide +kernel
theorem d_X12_findOuter_5 : decode prog_14_method_61_code 5 = .ok (.if_icmp .ge 140, 3) := by decide +kernel
theorem d_X12_findOuter_8 : decode prog_14_method_61_code 8 = .ok (.iload_n 3, 1) := by decide +kernel
theorem d_X12_findOuter_9 : decode prog_14_method_61_code 9 = .ok (.iconst 5, 1) := by decide +kernel
theorem d_X12_findOuter_10 : decode prog_14_method_61_code 10 = .ok (.if_icmp .ge 7, 3) := by decide +kernel
theorem d_X12_findOuter_13 : decode prog_14_method_61_code 13 = .ok (.iload_n 1, 1) := by decide +kernel
theorem d_X12_findOuter_14 : decode prog_14_method_61_code 14 = .ok (.goto 4, 3) := by decide +kernel
theorem d_X12_findOuter_17 : decode prog_14_method_61_code 17 = .ok (.iload_n 2, 1) := by decide +kernel
theorem d_X12_findOuter_18 : decode prog_14_method_61_code 18 = .ok (.istore 4, 2) := by decide +kernel
theorem d_X12_findOuter_20 : decode prog_14_method_61_code 20 = .ok (.aload_n 0, 1) := by decide +kernel
theorem d_X12_findOuter_21 : decode prog_14_method_61_code 21 = .ok (.getfield 140, 3) := by decide +kernel
theorem d_X12_findOuter_24 : decode prog_14_method_61_code 24 = .ok (.iload_n 3, 1) := by decide +kernel
theorem d_X12_findOuter_25 : decode prog_14_method_61_code 25 = .ok (.iconst 0, 1) := by decide +kernel
theorem d_X12_findOuter_26 : decode prog_14_method_61_code 26 = .ok (.bastore, 1) := by decide +kernel
theorem d_X12_findOuter_27 : decode prog_14_method_61_code 27 = .ok (.aload_n 0, 1) := by decide +kernel
theorem d_X12_findOuter_28 : decode prog_14_method_61_code 28 = .ok (.getfield 137, 3) := by decide +kernel
theorem d_X12_findOuter_31 : decode prog_14_method_61_code 31 = .ok (.iload_n 3, 1) := by decide +kernel
theorem d_X12_findOuter_32 : decode prog_14_method_61_code 32 = .ok (.iconst 0, 1) := by decide +kernel
theorem d_X12_findOuter_33 : decode prog_14_method_61_code 33 = .ok (.iastore, 1) := by decide +kernel
theorem d_X12_findOuter_34 : decode prog_14_method_61_code 34 = .ok (.iload_n 3, 1) := by decide +kernel
theorem d_X12_findOuter_35 : decode prog_14_method_61_code 35 = .ok (.iconst 5, 1) := by decide +kernel
theorem d_X12_findOuter_36 : decode prog_14_method_61_code 36 = .ok (.irem, 1) := by decide +kernel
theorem d_X12_findOuter_37 : decode prog_14_method_61_code 37 = .ok (.ifCond .le 102, 3) := by decide +kernel
theorem d_X12_findOuter_40 : decode prog_14_method_61_code 40 = .ok (.iload_n 3, 1) := by decide +kernel
theorem d_X12_findOuter_41 : decode prog_14_method_61_code 41 = .ok (.iconst 5, 1) := by decide +kernel
theorem d_X12_findOuter_42 : decode prog_14_method_61_code 42 = .ok (.irem, 1) := by decide +kernel
theorem d_X12_findOuter_43 : decode prog_14_method_61_code 43 = .ok (.aload_n 0, 1) := by decide +kernel
theorem d_X12_findOuter_44 : decode prog_14_method_61_code 44 = .ok (.getfield 21, 3) := by decide +kernel
theorem d_X12_findOuter_47 : decode prog_14_method_61_code 47 = .ok (.aload_n 0, 1) := by decide +kernel
theorem d_X12_findOuter_48 : decode prog_14_method_61_code 48 = .ok (.getfield 49, 3) := by decide +kernel
theorem d_X12_findOuter_51 : decode prog_14_method_61_code 51 = .ok (.iload 4, 2) := by decide +kernel
theorem d_X12_findOuter_53 : decode prog_14_method_61_code 53 = .ok (.iaload, 1) := by decide +kernel
theorem d_X12_findOuter_54 : decode prog_14_method_61_code 54 = .ok (.iaload, 1) := by decide +kernel
theorem d_X12_findOuter_55 : decode prog_14_method_61_code 55 = .ok (.if_icmp .ge 84, 3) := by decide +kernel
theorem d_X12_findOuter_58 : decode prog_14_method_61_code 58 = .ok (.aload_n 0, 1) := by decide +kernel
theorem d_X12_findOuter_59 : decode prog_14_method_61_code 59 = .ok (.getfield 52, 3) := by decide +kernel
theorem d_X12_findOuter_62 : decode prog_14_method_61_code 62 = .ok (.iconst 5, 1) := by decide +kernel
theorem d_X12_findOuter_63 : decode prog_14_method_61_code 63 = .ok (.iload 4, 2) := by decide +kernel
theorem d_X12_findOuter_65 : decode prog_14_method_61_code 65 = .ok (.imul, 1) := by decide +kernel
theorem d_X12_findOuter_66 : decode prog_14_method_61_code 66 = .ok (.iload_n 3, 1) := by decide +kernel
theorem d_X12_findOuter_67 : decode prog_14_method_61_code 67 = .ok (.iconst 5, 1) := by decide +kernel
theorem d_X12_findOuter_68 : decode prog_14_method_61_code 68 = .ok (.irem, 1) := by decide +kernel
theorem d_X12_findOuter_69 : decode prog_14_method_61_code 69 = .ok (.iadd, 1) := by decide +kernel
theorem d_X12_findOuter_70 : decode prog_14_method_61_code 70 = .ok (.iaload, 1) := by decide +kernel
theorem d_X12_findOuter_71 : decode prog_14_method_61_code 71 = .ok (.istore 5, 2) := by decide +kernel
theorem d_X12_findOuter_73 : decode prog_14_method_61_code 73 = .ok (.iload 5, 2) := by decide +kernel
theorem d_X12_findOuter_75 : decode prog_14_method_61_code 75 = .ok (.ifCond .lt 23, 3) := by decide +kernel
theorem d_X12_findOuter_78 : decode prog_14_method_61_code 78 = .ok (.iload 5, 2) := by decide +kernel
theorem d_X12_findOuter_80 : decode prog_14_method_61_code 80 = .ok (.iconst 5, 1) := by decide +kernel
theorem d_X12_findOuter_81 : decode prog_14_method_61_code 81 = .ok (.idiv, 1) := by decide +kernel
theorem d_X12_findOuter_82 : decode prog_14_method_61_code 82 = .ok (.iload_n 1, 1) := by decide +kernel
theorem d_X12_findOuter_83 : decode prog_14_method_61_code 83 = .ok (.if_icmp .eq 11, 3) := by decide +kernel
theorem d_X12_findOuter_86 : decode prog_14_method_61_code 86 = .ok (.iload 5, 2) := by decide +kernel
theorem d_X12_findOuter_88 : decode prog_14_method_61_code 88 = .ok (.iconst 5, 1) := by decide +kernel
theorem d_X12_findOuter_89 : decode prog_14_method_61_code 89 = .ok (.idiv, 1) := by decide +kernel
theorem d_X12_findOuter_90 : decode prog_14_method_61_code 90 = .ok (.iload_n 2, 1) := by decide +kernel
theorem d_X12_findOuter_91 : decode prog_14_method_61_code 91 = .ok (.if_icmp .ne 7, 3) := by decide +kernel
theorem d_X12_findOuter_94 : decode prog_14_method_61_code 94 = .ok (.iconst 1, 1) := by decide +kernel
theorem d_X12_findOuter_95 : decode prog_14_method_61_code 95 = .ok (.goto 4, 3) := by decide +kernel
theorem d_X12_findOuter_98 : decode prog_14_method_61_code 98 = .ok (.iconst 0, 1) := by decide +kernel
theorem d_X12_findOuter_99 : decode prog_14_method_61_code 99 = .ok (.istore 6, 2) := by decide +kernel
theorem d_X12_findOuter_101 : decode prog_14_method_61_code 101 = .ok (.aload_n 0, 1) := by decide +kernel
theorem d_X12_findOuter_102 : decode prog_14_method_61_code 102 = .ok (.getfield 137, 3) := by decide +kernel
theorem d_X12_findOuter_105 : decode prog_14_method_61_code 105 = .ok (.iload_n 3, 1) := by decide +kernel
theorem d_X12_findOuter_106 : decode prog_14_method_61_code 106 = .ok (.iload 6, 2) := by decide +kernel
theorem d_X12_findOuter_108 : decode prog_14_method_61_code 108 = .ok (.ifCond .ne 8, 3) := by decide +kernel
theorem d_X12_findOuter_111 : decode prog_14_method_61_code 111 = .ok (.iload 5, 2) := by decide +kernel
theorem d_X12_findOuter_113 : decode prog_14_method_61_code 113 = .ok (.goto 25, 3) := by decide +kernel
theorem d_X12_findOuter_116 : decode prog_14_method_61_code 116 = .ok (.sipush 10000, 3) := by decide +kernel
theorem d_X12_findOuter_119 : decode prog_14_method_61_code 119 = .ok (.iload 5, 2) := by decide +kernel
theorem d_X12_findOuter_121 : decode prog_14_method_61_code 121 = .ok (.iconst 5, 1) := by decide +kernel
theorem d_X12_findOuter_122 : decode prog_14_method_61_code 122 = .ok (.idiv, 1) := by decide +kernel
theorem d_X12_findOuter_123 : decode prog_14_method_61_code 123 = .ok (.iload_n 1, 1) := by decide +kernel
theorem d_X12_findOuter_124 : decode prog_14_method_61_code 124 = .ok (.if_icmp .ne 7, 3) := by decide +kernel
theorem d_X12_findOuter_127 : decode prog_14_method_61_code 127 = .ok (.iconst 0, 1) := by decide +kernel
theorem d_X12_findOuter_128 : decode prog_14_method_61_code 128 = .ok (.goto 4, 3) := by decide +kernel
theorem d_X12_findOuter_131 : decode prog_14_method_61_code 131 = .ok (.iconst 5, 1) := by decide +kernel
theorem d_X12_findOuter_132 : decode prog_14_method_61_code 132 = .ok (.iadd, 1) := by decide +kernel
theorem d_X12_findOuter_133 : decode prog_14_method_61_code 133 = .ok (.iload 5, 2) := by decide +kernel
theorem d_X12_findOuter_135 : decode prog_14_method_61_code 135 = .ok (.iconst 5, 1) := by decide +kernel
theorem d_X12_findOuter_136 : decode prog_14_method_61_code 136 = .ok (.irem, 1) := by decide +kernel
theorem d_X12_findOuter_137 : decode prog_14_method_61_code 137 = .ok (.iadd, 1) := by decide +kernel
theorem d_X12_findOuter_138 : decode prog_14_method_61_code 138 = .ok (.iastore, 1) := by decide +kernel
theorem d_X12_findOuter_139 : decode prog_14_method_61_code 139 = .ok (.iinc 3 1, 3) := by decide +kernel
theorem d_X12_findOuter_142 : decode prog_14_method_61_code 142 = .ok (.goto (-140), 3) := by decide +kernel
theorem d_X12_findOuter_145 : decode prog_14_method_61_code 145 = .ok (.return_, 1) := by decide +kernel
theorem d_X12_fresh_0 : decode prog_14_method_57_code 0 = .ok (.iconst 5, 1) := by decide +kernel
theorem d_X12_fresh_1 : decode prog_14_method_57_code 1 = .ok (.aload_n 0, 1) := by decide +kernel
theorem d_X12_fresh_2 : decode prog_14_method_57_code 2 = .ok (.getfield 143, 3) := by decide +kernel
theorem d_X12_fresh_5 : decode prog_14_method_57_code 5 = .ok (.iload_n 1, 1) := by decide +kernel
theorem d_X12_fresh_6 : decode prog_14_method_57_code 6 = .ok (.iconst 5, 1) := by decide +kernel
theorem d_X12_fresh_7 : decode prog_14_method_57_code 7 = .ok (.idiv, 1) := by decide +kernel
theorem d_X12_fresh_8 : decode prog_14_method_57_code 8 = .ok (.iaload, 1) := by decide +kernel
theorem d_X12_fresh_9 : decode prog_14_method_57_code 9 = .ok (.imul, 1) := by decide +kernel
theorem d_X12_fresh_10 : decode prog_14_method_57_code 10 = .ok (.iload_n 1, 1) := by decide +kernel
theorem d_X12_fresh_11 : decode prog_14_method_57_code 11 = .ok (.iconst 5, 1) := by decide +kernel
theorem d_X12_fresh_12 : decode prog_14_method_57_code 12 = .ok (.irem, 1) := by decide +kernel
theorem d_X12_fresh_13 : decode prog_14_method_57_code 13 = .ok (.iadd, 1) := by decide +kernel
theorem d_X12_fresh_14 : decode prog_14_method_57_code 14 = .ok (.ireturn, 1) := by decide +kernel
theorem d_X12_goRound_0 : decode prog_14_method_60_code 0 = .ok (.iload_n 2, 1) := by decide +kernel
theorem d_X12_goRound_1 : decode prog_14_method_60_code 1 = .ok (.istore_n 3, 1) := by decide +kernel
theorem d_X12_goRound_2 : decode prog_14_method_60_code 2 = .ok (.aload_n 0, 1) := by decide +kernel
theorem d_X12_goRound_3 : decode prog_14_method_60_code 3 = .ok (.getfield 140, 3) := by decide +kernel
theorem d_X12_goRound_6 : decode prog_14_method_60_code 6 = .ok (.iload_n 3, 1) := by decide +kernel
theorem d_X12_goRound_7 : decode prog_14_method_60_code 7 = .ok (.baload, 1) := by decide +kernel
theorem d_X12_goRound_8 : decode prog_14_method_60_code 8 = .ok (.ifCond .ne 65, 3) := by decide +kernel
theorem d_X12_goRound_11 : decode prog_14_method_60_code 11 = .ok (.aload_n 0, 1) := by decide +kernel
theorem d_X12_goRound_12 : decode prog_14_method_60_code 12 = .ok (.getfield 140, 3) := by decide +kernel
theorem d_X12_goRound_15 : decode prog_14_method_60_code 15 = .ok (.iload_n 3, 1) := by decide +kernel
theorem d_X12_goRound_16 : decode prog_14_method_60_code 16 = .ok (.iconst 1, 1) := by decide +kernel
theorem d_X12_goRound_17 : decode prog_14_method_60_code 17 = .ok (.bastore, 1) := by decide +kernel
theorem d_X12_goRound_18 : decode prog_14_method_60_code 18 = .ok (.aload_n 0, 1) := by decide +kernel
theorem d_X12_goRound_19 : decode prog_14_method_60_code 19 = .ok (.getfield 137, 3) := by decide +kernel
theorem d_X12_goRound_22 : decode prog_14_method_60_code 22 = .ok (.iload_n 3, 1) := by decide +kernel
theorem d_X12_goRound_23 : decode prog_14_method_60_code 23 = .ok (.iaload, 1) := by decide +kernel
theorem d_X12_goRound_24 : decode prog_14_method_60_code 24 = .ok (.sipush 10000, 3) := by decide +kernel
theorem d_X12_goRound_27 : decode prog_14_method_60_code 27 = .ok (.isub, 1) := by decide +kernel
theorem d_X12_goRound_28 : decode prog_14_method_60_code 28 = .ok (.istore 4, 2) := by decide +kernel
theorem d_X12_goRound_30 : decode prog_14_method_60_code 30 = .ok (.aload_n 0, 1) := by decide +kernel
theorem d_X12_goRound_31 : decode prog_14_method_60_code 31 = .ok (.getfield 140, 3) := by decide +kernel
theorem d_X12_goRound_34 : decode prog_14_method_60_code 34 = .ok (.iload 4, 2) := by decide +kernel
theorem d_X12_goRound_36 : decode prog_14_method_60_code 36 = .ok (.iconst 1, 1) := by decide +kernel
theorem d_X12_goRound_37 : decode prog_14_method_60_code 37 = .ok (.bastore, 1) := by decide +kernel
theorem d_X12_goRound_38 : decode prog_14_method_60_code 38 = .ok (.aload_n 0, 1) := by decide +kernel
theorem d_X12_goRound_39 : decode prog_14_method_60_code 39 = .ok (.getfield 43, 3) := by decide +kernel
theorem d_X12_goRound_42 : decode prog_14_method_60_code 42 = .ok (.bipush 70, 2) := by decide +kernel
theorem d_X12_goRound_44 : decode prog_14_method_60_code 44 = .ok (.iload_n 1, 1) := by decide +kernel
theorem d_X12_goRound_45 : decode prog_14_method_60_code 45 = .ok (.imul, 1) := by decide +kernel
theorem d_X12_goRound_46 : decode prog_14_method_60_code 46 = .ok (.bipush 60, 2) := by decide +kernel
theorem d_X12_goRound_48 : decode prog_14_method_60_code 48 = .ok (.iadd, 1) := by decide +kernel
theorem d_X12_goRound_49 : decode prog_14_method_60_code 49 = .ok (.iload 4, 2) := by decide +kernel
theorem d_X12_goRound_51 : decode prog_14_method_60_code 51 = .ok (.iadd, 1) := by decide +kernel
theorem d_X12_goRound_52 : decode prog_14_method_60_code 52 = .ok (.iaload, 1) := by decide +kernel
theorem d_X12_goRound_53 : decode prog_14_method_60_code 53 = .ok (.istore 5, 2) := by decide +kernel
theorem d_X12_goRound_55 : decode prog_14_method_60_code 55 = .ok (.iload 5, 2) := by decide +kernel
theorem d_X12_goRound_57 : decode prog_14_method_60_code 57 = .ok (.bipush 60, 2) := by decide +kernel
theorem d_X12_goRound_59 : decode prog_14_method_60_code 59 = .ok (.if_icmp .ge 5, 3) := by decide +kernel
theorem d_X12_goRound_62 : decode prog_14_method_60_code 62 = .ok (.iconst 0, 1) := by decide +kernel
theorem d_X12_goRound_63 : decode prog_14_method_60_code 63 = .ok (.ireturn, 1) := by decide +kernel
theorem d_X12_goRound_64 : decode prog_14_method_60_code 64 = .ok (.iload 5, 2) := by decide +kernel
theorem d_X12_goRound_66 : decode prog_14_method_60_code 66 = .ok (.bipush 60, 2) := by decide +kernel
theorem d_X12_goRound_68 : decode prog_14_method_60_code 68 = .ok (.isub, 1) := by decide +kernel
theorem d_X12_goRound_69 : decode prog_14_method_60_code 69 = .ok (.istore_n 3, 1) := by decide +kernel
theorem d_X12_goRound_70 : decode prog_14_method_60_code 70 = .ok (.goto (-68), 3) := by decide +kernel
theorem d_X12_goRound_73 : decode prog_14_method_60_code 73 = .ok (.iconst 1, 1) := by decide +kernel
theorem d_X12_goRound_74 : decode prog_14_method_60_code 74 = .ok (.ireturn, 1) := by decide +kernel
theorem d_X12_outward_0 : decode prog_14_method_58_code 0 = .ok (.iload_n 2, 1) := by decide +kernel
theorem d_X12_outward_1 : decode prog_14_method_58_code 1 = .ok (.istore_n 3, 1) := by decide +kernel
theorem d_X12_outward_2 : decode prog_14_method_58_code 2 = .ok (.aload_n 0, 1) := by decide +kernel
theorem d_X12_outward_3 : decode prog_14_method_58_code 3 = .ok (.getfield 140, 3) := by decide +kernel
theorem d_X12_outward_6 : decode prog_14_method_58_code 6 = .ok (.iload_n 3, 1) := by decide +kernel
theorem d_X12_outward_7 : decode prog_14_method_58_code 7 = .ok (.iconst 1, 1) := by decide +kernel
theorem d_X12_outward_8 : decode prog_14_method_58_code 8 = .ok (.bastore, 1) := by decide +kernel
theorem d_X12_outward_9 : decode prog_14_method_58_code 9 = .ok (.aload_n 0, 1) := by decide +kernel
theorem d_X12_outward_10 : decode prog_14_method_58_code 10 = .ok (.getfield 137, 3) := by decide +kernel
theorem d_X12_outward_13 : decode prog_14_method_58_code 13 = .ok (.iload_n 3, 1) := by decide +kernel
theorem d_X12_outward_14 : decode prog_14_method_58_code 14 = .ok (.iaload, 1) := by decide +kernel
theorem d_X12_outward_15 : decode prog_14_method_58_code 15 = .ok (.sipush 10000, 3) := by decide +kernel
theorem d_X12_outward_18 : decode prog_14_method_58_code 18 = .ok (.if_icmp .ge 10, 3) := by decide +kernel
theorem d_X12_outward_21 : decode prog_14_method_58_code 21 = .ok (.aload_n 0, 1) := by decide +kernel
theorem d_X12_outward_22 : decode prog_14_method_58_code 22 = .ok (.getfield 137, 3) := by decide +kernel
theorem d_X12_outward_25 : decode prog_14_method_58_code 25 = .ok (.iload_n 3, 1) := by decide +kernel
theorem d_X12_outward_26 : decode prog_14_method_58_code 26 = .ok (.iaload, 1) := by decide +kernel
theorem d_X12_outward_27 : decode prog_14_method_58_code 27 = .ok (.ireturn, 1) := by decide +kernel
theorem d_X12_outward_28 : decode prog_14_method_58_code 28 = .ok (.aload_n 0, 1) := by decide +kernel
theorem d_X12_outward_29 : decode prog_14_method_58_code 29 = .ok (.getfield 137, 3) := by decide +kernel
theorem d_X12_outward_32 : decode prog_14_method_58_code 32 = .ok (.iload_n 3, 1) := by decide +kernel
theorem d_X12_outward_33 : decode prog_14_method_58_code 33 = .ok (.iaload, 1) := by decide +kernel
theorem d_X12_outward_34 : decode prog_14_method_58_code 34 = .ok (.sipush 10000, 3) := by decide +kernel
theorem d_X12_outward_37 : decode prog_14_method_58_code 37 = .ok (.isub, 1) := by decide +kernel
theorem d_X12_outward_38 : decode prog_14_method_58_code 38 = .ok (.istore_n 3, 1) := by decide +kernel
theorem d_X12_outward_39 : decode prog_14_method_58_code 39 = .ok (.aload_n 0, 1) := by decide +kernel
theorem d_X12_outward_40 : decode prog_14_method_58_code 40 = .ok (.getfield 140, 3) := by decide +kernel
theorem d_X12_outward_43 : decode prog_14_method_58_code 43 = .ok (.iload_n 3, 1) := by decide +kernel
theorem d_X12_outward_44 : decode prog_14_method_58_code 44 = .ok (.iconst 1, 1) := by decide +kernel
theorem d_X12_outward_45 : decode prog_14_method_58_code 45 = .ok (.bastore, 1) := by decide +kernel
theorem d_X12_outward_46 : decode prog_14_method_58_code 46 = .ok (.aload_n 0, 1) := by decide +kernel
theorem d_X12_outward_47 : decode prog_14_method_58_code 47 = .ok (.getfield 43, 3) := by decide +kernel
theorem d_X12_outward_50 : decode prog_14_method_58_code 50 = .ok (.bipush 70, 2) := by decide +kernel
theorem d_X12_outward_52 : decode prog_14_method_58_code 52 = .ok (.iload_n 1, 1) := by decide +kernel
theorem d_X12_outward_53 : decode prog_14_method_58_code 53 = .ok (.imul, 1) := by decide +kernel
theorem d_X12_outward_54 : decode prog_14_method_58_code 54 = .ok (.bipush 60, 2) := by decide +kernel
theorem d_X12_outward_56 : decode prog_14_method_58_code 56 = .ok (.iadd, 1) := by decide +kernel
theorem d_X12_outward_57 : decode prog_14_method_58_code 57 = .ok (.iload_n 3, 1) := by decide +kernel
theorem d_X12_outward_58 : decode prog_14_method_58_code 58 = .ok (.iadd, 1) := by decide +kernel
theorem d_X12_outward_59 : decode prog_14_method_58_code 59 = .ok (.iaload, 1) := by decide +kernel
theorem d_X12_outward_60 : decode prog_14_method_58_code 60 = .ok (.istore 4, 2) := by decide +kernel
theorem d_X12_outward_62 : decode prog_14_method_58_code 62 = .ok (.iload 4, 2) := by decide +kernel
theorem d_X12_outward_64 : decode prog_14_method_58_code 64 = .ok (.bipush 60, 2) := by decide +kernel
theorem d_X12_outward_66 : decode prog_14_method_58_code 66 = .ok (.if_icmp .ge 10, 3) := by decide +kernel
theorem d_X12_outward_69 : decode prog_14_method_58_code 69 = .ok (.aload_n 0, 1) := by decide +kernel
theorem d_X12_outward_70 : decode prog_14_method_58_code 70 = .ok (.iload 4, 2) := by decide +kernel
theorem d_X12_outward_72 : decode prog_14_method_58_code 72 = .ok (.invokevirtual 412, 3) := by decide +kernel
theorem d_X12_outward_75 : decode prog_14_method_58_code 75 = .ok (.ireturn, 1) := by decide +kernel
theorem d_X12_outward_76 : decode prog_14_method_58_code 76 = .ok (.iload 4, 2) := by decide +kernel
theorem d_X12_outward_78 : decode prog_14_method_58_code 78 = .ok (.bipush 60, 2) := by decide +kernel
theorem d_X12_outward_80 : decode prog_14_method_58_code 80 = .ok (.isub, 1) := by decide +kernel
theorem d_X12_outward_81 : decode prog_14_method_58_code 81 = .ok (.istore_n 3, 1) := by decide +kernel
theorem d_X12_outward_82 : decode prog_14_method_58_code 82 = .ok (.goto (-80), 3) := by decide +kernel
theorem d_X12_wire_0 : decode prog_14_method_56_code 0 = .ok (.iload_n 1, 1) := by decide +kernel
theorem d_X12_wire_1 : decode prog_14_method_56_code 1 = .ok (.ifCond .ge 16, 3) := by decide +kernel
theorem d_X12_wire_4 : decode prog_14_method_56_code 4 = .ok (.aload_n 0, 1) := by decide +kernel
theorem d_X12_wire_5 : decode prog_14_method_56_code 5 = .ok (.getfield 55, 3) := by decide +kernel
theorem d_X12_wire_8 : decode prog_14_method_56_code 8 = .ok (.bipush (-2), 2) := by decide +kernel
theorem d_X12_wire_10 : decode prog_14_method_56_code 10 = .ok (.iload_n 1, 1) := by decide +kernel
theorem d_X12_wire_11 : decode prog_14_method_56_code 11 = .ok (.isub, 1) := by decide +kernel
theorem d_X12_wire_12 : decode prog_14_method_56_code 12 = .ok (.iload_n 2, 1) := by decide +kernel
theorem d_X12_wire_13 : decode prog_14_method_56_code 13 = .ok (.iastore, 1) := by decide +kernel
theorem d_X12_wire_14 : decode prog_14_method_56_code 14 = .ok (.goto 10, 3) := by decide +kernel
theorem d_X12_wire_17 : decode prog_14_method_56_code 17 = .ok (.aload_n 0, 1) := by decide +kernel
theorem d_X12_wire_18 : decode prog_14_method_56_code 18 = .ok (.getfield 52, 3) := by decide +kernel
theorem d_X12_wire_21 : decode prog_14_method_56_code 21 = .ok (.iload_n 1, 1) := by decide +kernel
theorem d_X12_wire_22 : decode prog_14_method_56_code 22 = .ok (.iload_n 2, 1) := by decide +kernel
theorem d_X12_wire_23 : decode prog_14_method_56_code 23 = .ok (.iastore, 1) := by decide +kernel
theorem d_X12_wire_24 : decode prog_14_method_56_code 24 = .ok (.return_, 1) := by decide +kernel
theorem d_X12_doStep_0 : decode prog_14_method_59_code 0 = .ok (.aload_n 0, 1) := by decide +kernel
theorem d_X12_doStep_1 : decode prog_14_method_59_code 1 = .ok (.iload_n 1, 1) := by decide +kernel
theorem d_X12_doStep_2 : decode prog_14_method_59_code 2 = .ok (.iload_n 2, 1) := by decide +kernel
theorem d_X12_doStep_3 : decode prog_14_method_59_code 3 = .ok (.invokevirtual 377, 3) := by decide +kernel
theorem d_X12_doStep_6 : decode prog_14_method_59_code 6 = .ok (.istore_n 3, 1) := by decide +kernel
theorem d_X12_doStep_7 : decode prog_14_method_59_code 7 = .ok (.aload_n 0, 1) := by decide +kernel
theorem d_X12_doStep_8 : decode prog_14_method_59_code 8 = .ok (.invokevirtual 388, 3) := by decide +kernel
theorem d_X12_doStep_11 : decode prog_14_method_59_code 11 = .ok (.iconst 2, 1) := by decide +kernel
theorem d_X12_doStep_12 : decode prog_14_method_59_code 12 = .ok (.isub, 1) := by decide +kernel
theorem d_X12_doStep_13 : decode prog_14_method_59_code 13 = .ok (.aload_n 0, 1) := by decide +kernel
theorem d_X12_doStep_14 : decode prog_14_method_59_code 14 = .ok (.getfield 37, 3) := by decide +kernel
theorem d_X12_doStep_17 : decode prog_14_method_59_code 17 = .ok (.iload_n 3, 1) := by decide +kernel
theorem d_X12_doStep_18 : decode prog_14_method_59_code 18 = .ok (.iaload, 1) := by decide +kernel
theorem d_X12_doStep_19 : decode prog_14_method_59_code 19 = .ok (.iadd, 1) := by decide +kernel
theorem d_X12_doStep_20 : decode prog_14_method_59_code 20 = .ok (.sipush 400, 3) := by decide +kernel
theorem d_X12_doStep_23 : decode prog_14_method_59_code 23 = .ok (.if_icmp .le 5, 3) := by decide +kernel
theorem d_X12_doStep_26 : decode prog_14_method_59_code 26 = .ok (.iconst 0, 1) := by decide +kernel
theorem d_X12_doStep_27 : decode prog_14_method_59_code 27 = .ok (.ireturn, 1) := by decide +kernel
theorem d_X12_doStep_28 : decode prog_14_method_59_code 28 = .ok (.iload_n 1, 1) := by decide +kernel
theorem d_X12_doStep_29 : decode prog_14_method_59_code 29 = .ok (.iload_n 2, 1) := by decide +kernel
theorem d_X12_doStep_30 : decode prog_14_method_59_code 30 = .ok (.if_icmp .ge 7, 3) := by decide +kernel
theorem d_X12_doStep_33 : decode prog_14_method_59_code 33 = .ok (.iload_n 1, 1) := by decide +kernel
theorem d_X12_doStep_34 : decode prog_14_method_59_code 34 = .ok (.goto 4, 3) := by decide +kernel
theorem d_X12_doStep_37 : decode prog_14_method_59_code 37 = .ok (.iload_n 2, 1) := by decide +kernel
theorem d_X12_doStep_38 : decode prog_14_method_59_code 38 = .ok (.istore 4, 2) := by decide +kernel
theorem d_X12_doStep_40 : decode prog_14_method_59_code 40 = .ok (.iload_n 1, 1) := by decide +kernel
theorem d_X12_doStep_41 : decode prog_14_method_59_code 41 = .ok (.iload_n 2, 1) := by decide +kernel
theorem d_X12_doStep_42 : decode prog_14_method_59_code 42 = .ok (.if_icmp .ge 7, 3) := by decide +kernel
theorem d_X12_doStep_45 : decode prog_14_method_59_code 45 = .ok (.iload_n 2, 1) := by decide +kernel
theorem d_X12_doStep_46 : decode prog_14_method_59_code 46 = .ok (.goto 4, 3) := by decide +kernel
theorem d_X12_doStep_49 : decode prog_14_method_59_code 49 = .ok (.iload_n 1, 1) := by decide +kernel
theorem d_X12_doStep_50 : decode prog_14_method_59_code 50 = .ok (.istore 5, 2) := by decide +kernel
theorem d_X12_doStep_52 : decode prog_14_method_59_code 52 = .ok (.aload_n 0, 1) := by decide +kernel
theorem d_X12_doStep_53 : decode prog_14_method_59_code 53 = .ok (.getfield 62, 3) := by decide +kernel
theorem d_X12_doStep_56 : decode prog_14_method_59_code 56 = .ok (.aload_n 0, 1) := by decide +kernel
theorem d_X12_doStep_57 : decode prog_14_method_59_code 57 = .ok (.getfield 369, 3) := by decide +kernel
theorem d_X12_doStep_60 : decode prog_14_method_59_code 60 = .ok (.bipush 50, 2) := by decide +kernel
theorem d_X12_doStep_62 : decode prog_14_method_59_code 62 = .ok (.irem, 1) := by decide +kernel
theorem d_X12_doStep_63 : decode prog_14_method_59_code 63 = .ok (.bipush 16, 2) := by decide +kernel
theorem d_X12_doStep_65 : decode prog_14_method_59_code 65 = .ok (.aload_n 0, 1) := by decide +kernel
theorem d_X12_doStep_66 : decode prog_14_method_59_code 66 = .ok (.getfield 49, 3) := by decide +kernel
theorem d_X12_doStep_69 : decode prog_14_method_59_code 69 = .ok (.iload 4, 2) := by decide +kernel
theorem d_X12_doStep_71 : decode prog_14_method_59_code 71 = .ok (.iaload, 1) := by decide +kernel
theorem d_X12_doStep_72 : decode prog_14_method_59_code 72 = .ok (.imul, 1) := by decide +kernel
theorem d_X12_doStep_73 : decode prog_14_method_59_code 73 = .ok (.aload_n 0, 1) := by decide +kernel
theorem d_X12_doStep_74 : decode prog_14_method_59_code 74 = .ok (.getfield 49, 3) := by decide +kernel
theorem d_X12_doStep_77 : decode prog_14_method_59_code 77 = .ok (.iload 5, 2) := by decide +kernel
theorem d_X12_doStep_79 : decode prog_14_method_59_code 79 = .ok (.iaload, 1) := by decide +kernel
theorem d_X12_doStep_80 : decode prog_14_method_59_code 80 = .ok (.iadd, 1) := by decide +kernel
theorem d_X12_doStep_81 : decode prog_14_method_59_code 81 = .ok (.iastore, 1) := by decide +kernel
theorem d_X12_doStep_82 : decode prog_14_method_59_code 82 = .ok (.aload_n 0, 1) := by decide +kernel
theorem d_X12_doStep_83 : decode prog_14_method_59_code 83 = .ok (.dup, 1) := by decide +kernel
theorem d_X12_doStep_84 : decode prog_14_method_59_code 84 = .ok (.getfield 369, 3) := by decide +kernel
theorem d_X12_doStep_87 : decode prog_14_method_59_code 87 = .ok (.iconst 1, 1) := by decide +kernel
theorem d_X12_doStep_88 : decode prog_14_method_59_code 88 = .ok (.iadd, 1) := by decide +kernel
theorem d_X12_doStep_89 : decode prog_14_method_59_code 89 = .ok (.putfield 369, 3) := by decide +kernel
theorem d_X12_doStep_92 : decode prog_14_method_59_code 92 = .ok (.aload_n 0, 1) := by decide +kernel
theorem d_X12_doStep_93 : decode prog_14_method_59_code 93 = .ok (.getfield 49, 3) := by decide +kernel
theorem d_X12_doStep_96 : decode prog_14_method_59_code 96 = .ok (.iload 4, 2) := by decide +kernel
theorem d_X12_doStep_98 : decode prog_14_method_59_code 98 = .ok (.iaload, 1) := by decide +kernel
theorem d_X12_doStep_99 : decode prog_14_method_59_code 99 = .ok (.aload_n 0, 1) := by decide +kernel
theorem d_X12_doStep_100 : decode prog_14_method_59_code 100 = .ok (.getfield 34, 3) := by decide +kernel
theorem d_X12_doStep_103 : decode prog_14_method_59_code 103 = .ok (.iconst 2, 1) := by decide +kernel
theorem d_X12_doStep_104 : decode prog_14_method_59_code 104 = .ok (.iload_n 3, 1) := by decide +kernel
theorem d_X12_doStep_105 : decode prog_14_method_59_code 105 = .ok (.imul, 1) := by decide +kernel
theorem d_X12_doStep_106 : decode prog_14_method_59_code 106 = .ok (.iaload, 1) := by decide +kernel
theorem d_X12_doStep_107 : decode prog_14_method_59_code 107 = .ok (.if_icmp .ne 8, 3) := by decide +kernel
theorem d_X12_doStep_110 : decode prog_14_method_59_code 110 = .ok (.iload 4, 2) := by decide +kernel
theorem d_X12_doStep_112 : decode prog_14_method_59_code 112 = .ok (.goto 5, 3) := by decide +kernel
theorem d_X12_doStep_115 : decode prog_14_method_59_code 115 = .ok (.iload 5, 2) := by decide +kernel
theorem d_X12_doStep_117 : decode prog_14_method_59_code 117 = .ok (.istore 6, 2) := by decide +kernel
theorem d_X12_doStep_119 : decode prog_14_method_59_code 119 = .ok (.iload 4, 2) := by decide +kernel
theorem d_X12_doStep_121 : decode prog_14_method_59_code 121 = .ok (.iload 5, 2) := by decide +kernel
theorem d_X12_doStep_123 : decode prog_14_method_59_code 123 = .ok (.iadd, 1) := by decide +kernel
theorem d_X12_doStep_124 : decode prog_14_method_59_code 124 = .ok (.iload 6, 2) := by decide +kernel
theorem d_X12_doStep_126 : decode prog_14_method_59_code 126 = .ok (.isub, 1) := by decide +kernel
theorem d_X12_doStep_127 : decode prog_14_method_59_code 127 = .ok (.istore 7, 2) := by decide +kernel
theorem d_X12_doStep_129 : decode prog_14_method_59_code 129 = .ok (.aload_n 0, 1) := by decide +kernel
theorem d_X12_doStep_130 : decode prog_14_method_59_code 130 = .ok (.iload 6, 2) := by decide +kernel
theorem d_X12_doStep_132 : decode prog_14_method_59_code 132 = .ok (.iload 7, 2) := by decide +kernel
theorem d_X12_doStep_134 : decode prog_14_method_59_code 134 = .ok (.invokevirtual 415, 3) := by decide +kernel
theorem d_X12_doStep_137 : decode prog_14_method_59_code 137 = .ok (.aload_n 0, 1) := by decide +kernel
theorem d_X12_doStep_138 : decode prog_14_method_59_code 138 = .ok (.getfield 21, 3) := by decide +kernel
theorem d_X12_doStep_141 : decode prog_14_method_59_code 141 = .ok (.aload_n 0, 1) := by decide +kernel
theorem d_X12_doStep_142 : decode prog_14_method_59_code 142 = .ok (.getfield 49, 3) := by decide +kernel
theorem d_X12_doStep_145 : decode prog_14_method_59_code 145 = .ok (.iload 6, 2) := by decide +kernel
theorem d_X12_doStep_147 : decode prog_14_method_59_code 147 = .ok (.iaload, 1) := by decide +kernel
theorem d_X12_doStep_148 : decode prog_14_method_59_code 148 = .ok (.iaload, 1) := by decide +kernel
theorem d_X12_doStep_149 : decode prog_14_method_59_code 149 = .ok (.istore 8, 2) := by decide +kernel
theorem d_X12_doStep_151 : decode prog_14_method_59_code 151 = .ok (.aload_n 0, 1) := by decide +kernel
theorem d_X12_doStep_152 : decode prog_14_method_59_code 152 = .ok (.getfield 21, 3) := by decide +kernel
theorem d_X12_doStep_155 : decode prog_14_method_59_code 155 = .ok (.aload_n 0, 1) := by decide +kernel
theorem d_X12_doStep_156 : decode prog_14_method_59_code 156 = .ok (.getfield 49, 3) := by decide +kernel
theorem d_X12_doStep_159 : decode prog_14_method_59_code 159 = .ok (.iload 7, 2) := by decide +kernel
theorem d_X12_doStep_161 : decode prog_14_method_59_code 161 = .ok (.iaload, 1) := by decide +kernel
theorem d_X12_doStep_162 : decode prog_14_method_59_code 162 = .ok (.iaload, 1) := by decide +kernel
theorem d_X12_doStep_163 : decode prog_14_method_59_code 163 = .ok (.istore 9, 2) := by decide +kernel
theorem d_X12_doStep_165 : decode prog_14_method_59_code 165 = .ok (.aload_n 0, 1) := by decide +kernel
theorem d_X12_doStep_166 : decode prog_14_method_59_code 166 = .ok (.getfield 49, 3) := by decide +kernel
theorem d_X12_doStep_169 : decode prog_14_method_59_code 169 = .ok (.iload 6, 2) := by decide +kernel
theorem d_X12_doStep_171 : decode prog_14_method_59_code 171 = .ok (.iconst (-1), 1) := by decide +kernel
theorem d_X12_doStep_172 : decode prog_14_method_59_code 172 = .ok (.iastore, 1) := by decide +kernel
theorem d_X12_doStep_173 : decode prog_14_method_59_code 173 = .ok (.aload_n 0, 1) := by decide +kernel
theorem d_X12_doStep_174 : decode prog_14_method_59_code 174 = .ok (.getfield 49, 3) := by decide +kernel
theorem d_X12_doStep_177 : decode prog_14_method_59_code 177 = .ok (.iload 7, 2) := by decide +kernel
theorem d_X12_doStep_179 : decode prog_14_method_59_code 179 = .ok (.iconst (-1), 1) := by decide +kernel
theorem d_X12_doStep_180 : decode prog_14_method_59_code 180 = .ok (.iastore, 1) := by decide +kernel
theorem d_X12_doStep_181 : decode prog_14_method_59_code 181 = .ok (.iconst 0, 1) := by decide +kernel
theorem d_X12_doStep_182 : decode prog_14_method_59_code 182 = .ok (.istore 10, 2) := by decide +kernel
theorem d_X12_doStep_184 : decode prog_14_method_59_code 184 = .ok (.iload 10, 2) := by decide +kernel
theorem d_X12_doStep_186 : decode prog_14_method_59_code 186 = .ok (.aload_n 0, 1) := by decide +kernel
theorem d_X12_doStep_187 : decode prog_14_method_59_code 187 = .ok (.getfield 37, 3) := by decide +kernel
theorem d_X12_doStep_190 : decode prog_14_method_59_code 190 = .ok (.iload_n 3, 1) := by decide +kernel
theorem d_X12_doStep_191 : decode prog_14_method_59_code 191 = .ok (.iaload, 1) := by decide +kernel
theorem d_X12_doStep_192 : decode prog_14_method_59_code 192 = .ok (.if_icmp .ge 56, 3) := by decide +kernel
theorem d_X12_doStep_195 : decode prog_14_method_59_code 195 = .ok (.iconst 0, 1) := by decide +kernel
theorem d_X12_doStep_196 : decode prog_14_method_59_code 196 = .ok (.istore 11, 2) := by decide +kernel
theorem d_X12_doStep_198 : decode prog_14_method_59_code 198 = .ok (.aload_n 0, 1) := by decide +kernel
theorem d_X12_doStep_199 : decode prog_14_method_59_code 199 = .ok (.getfield 49, 3) := by decide +kernel
theorem d_X12_doStep_202 : decode prog_14_method_59_code 202 = .ok (.iload 11, 2) := by decide +kernel
theorem d_X12_doStep_204 : decode prog_14_method_59_code 204 = .ok (.iaload, 1) := by decide +kernel
theorem d_X12_doStep_205 : decode prog_14_method_59_code 205 = .ok (.ifCond .lt 9, 3) := by decide +kernel
theorem d_X12_doStep_208 : decode prog_14_method_59_code 208 = .ok (.iinc 11 1, 3) := by decide +kernel
theorem d_X12_doStep_211 : decode prog_14_method_59_code 211 = .ok (.goto (-13), 3) := by decide +kernel
theorem d_X12_doStep_214 : decode prog_14_method_59_code 214 = .ok (.aload_n 0, 1) := by decide +kernel
theorem d_X12_doStep_215 : decode prog_14_method_59_code 215 = .ok (.getfield 143, 3) := by decide +kernel
theorem d_X12_doStep_218 : decode prog_14_method_59_code 218 = .ok (.iload 10, 2) := by decide +kernel
theorem d_X12_doStep_220 : decode prog_14_method_59_code 220 = .ok (.iload 11, 2) := by decide +kernel
theorem d_X12_doStep_222 : decode prog_14_method_59_code 222 = .ok (.iastore, 1) := by decide +kernel
theorem d_X12_doStep_223 : decode prog_14_method_59_code 223 = .ok (.aload_n 0, 1) := by decide +kernel
theorem d_X12_doStep_224 : decode prog_14_method_59_code 224 = .ok (.getfield 49, 3) := by decide +kernel
theorem d_X12_doStep_227 : decode prog_14_method_59_code 227 = .ok (.iload 11, 2) := by decide +kernel
theorem d_X12_doStep_229 : decode prog_14_method_59_code 229 = .ok (.aload_n 0, 1) := by decide +kernel
theorem d_X12_doStep_230 : decode prog_14_method_59_code 230 = .ok (.getfield 40, 3) := by decide +kernel
theorem d_X12_doStep_233 : decode prog_14_method_59_code 233 = .ok (.bipush 12, 2) := by decide +kernel
theorem d_X12_doStep_235 : decode prog_14_method_59_code 235 = .ok (.iload_n 3, 1) := by decide +kernel
theorem d_X12_doStep_236 : decode prog_14_method_59_code 236 = .ok (.imul, 1) := by decide +kernel
theorem d_X12_doStep_237 : decode prog_14_method_59_code 237 = .ok (.iload 10, 2) := by decide +kernel
theorem d_X12_doStep_239 : decode prog_14_method_59_code 239 = .ok (.iadd, 1) := by decide +kernel
theorem d_X12_doStep_240 : decode prog_14_method_59_code 240 = .ok (.iaload, 1) := by decide +kernel
theorem d_X12_doStep_241 : decode prog_14_method_59_code 241 = .ok (.iastore, 1) := by decide +kernel
theorem d_X12_doStep_242 : decode prog_14_method_59_code 242 = .ok (.iinc 10 1, 3) := by decide +kernel
theorem d_X12_doStep_245 : decode prog_14_method_59_code 245 = .ok (.goto (-61), 3) := by decide +kernel
theorem d_X12_doStep_248 : decode prog_14_method_59_code 248 = .ok (.iconst 0, 1) := by decide +kernel
theorem d_X12_doStep_249 : decode prog_14_method_59_code 249 = .ok (.istore 10, 2) := by decide +kernel
theorem d_X12_doStep_251 : decode prog_14_method_59_code 251 = .ok (.iload 10, 2) := by decide +kernel
theorem d_X12_doStep_253 : decode prog_14_method_59_code 253 = .ok (.aload_n 0, 1) := by decide +kernel
theorem d_X12_doStep_254 : decode prog_14_method_59_code 254 = .ok (.getfield 37, 3) := by decide +kernel
theorem d_X12_doStep_257 : decode prog_14_method_59_code 257 = .ok (.iload_n 3, 1) := by decide +kernel
theorem d_X12_doStep_258 : decode prog_14_method_59_code 258 = .ok (.iaload, 1) := by decide +kernel
theorem d_X12_doStep_259 : decode prog_14_method_59_code 259 = .ok (.if_icmp .ge 117, 3) := by decide +kernel
theorem d_X12_doStep_262 : decode prog_14_method_59_code 262 = .ok (.iconst 0, 1) := by decide +kernel
theorem d_X12_doStep_263 : decode prog_14_method_59_code 263 = .ok (.istore 11, 2) := by decide +kernel
theorem d_X12_doStep_265 : decode prog_14_method_59_code 265 = .ok (.iload 11, 2) := by decide +kernel
theorem d_X12_doStep_267 : decode prog_14_method_59_code 267 = .ok (.aload_n 0, 1) := by decide +kernel
theorem d_X12_doStep_268 : decode prog_14_method_59_code 268 = .ok (.getfield 21, 3) := by decide +kernel
theorem d_X12_doStep_271 : decode prog_14_method_59_code 271 = .ok (.aload_n 0, 1) := by decide +kernel
theorem d_X12_doStep_272 : decode prog_14_method_59_code 272 = .ok (.getfield 40, 3) := by decide +kernel
theorem d_X12_doStep_275 : decode prog_14_method_59_code 275 = .ok (.bipush 12, 2) := by decide +kernel
theorem d_X12_doStep_277 : decode prog_14_method_59_code 277 = .ok (.iload_n 3, 1) := by decide +kernel
theorem d_X12_doStep_278 : decode prog_14_method_59_code 278 = .ok (.imul, 1) := by decide +kernel
theorem d_X12_doStep_279 : decode prog_14_method_59_code 279 = .ok (.iload 10, 2) := by decide +kernel
theorem d_X12_doStep_281 : decode prog_14_method_59_code 281 = .ok (.iadd, 1) := by decide +kernel
theorem d_X12_doStep_282 : decode prog_14_method_59_code 282 = .ok (.iaload, 1) := by decide +kernel
theorem d_X12_doStep_283 : decode prog_14_method_59_code 283 = .ok (.iaload, 1) := by decide +kernel
theorem d_X12_doStep_284 : decode prog_14_method_59_code 284 = .ok (.if_icmp .ge 86, 3) := by decide +kernel
theorem d_X12_doStep_287 : decode prog_14_method_59_code 287 = .ok (.aload_n 0, 1) := by decide +kernel
theorem d_X12_doStep_288 : decode prog_14_method_59_code 288 = .ok (.getfield 43, 3) := by decide +kernel
theorem d_X12_doStep_291 : decode prog_14_method_59_code 291 = .ok (.bipush 70, 2) := by decide +kernel
theorem d_X12_doStep_293 : decode prog_14_method_59_code 293 = .ok (.iload_n 3, 1) := by decide +kernel
theorem d_X12_doStep_294 : decode prog_14_method_59_code 294 = .ok (.imul, 1) := by decide +kernel
theorem d_X12_doStep_295 : decode prog_14_method_59_code 295 = .ok (.iconst 5, 1) := by decide +kernel
theorem d_X12_doStep_296 : decode prog_14_method_59_code 296 = .ok (.iload 10, 2) := by decide +kernel
theorem d_X12_doStep_298 : decode prog_14_method_59_code 298 = .ok (.imul, 1) := by decide +kernel
theorem d_X12_doStep_299 : decode prog_14_method_59_code 299 = .ok (.iadd, 1) := by decide +kernel
theorem d_X12_doStep_300 : decode prog_14_method_59_code 300 = .ok (.iload 11, 2) := by decide +kernel
theorem d_X12_doStep_302 : decode prog_14_method_59_code 302 = .ok (.iadd, 1) := by decide +kernel
theorem d_X12_doStep_303 : decode prog_14_method_59_code 303 = .ok (.iaload, 1) := by decide +kernel
theorem d_X12_doStep_304 : decode prog_14_method_59_code 304 = .ok (.istore 12, 2) := by decide +kernel
theorem d_X12_doStep_306 : decode prog_14_method_59_code 306 = .ok (.aload_n 0, 1) := by decide +kernel
theorem d_X12_doStep_307 : decode prog_14_method_59_code 307 = .ok (.iconst 5, 1) := by decide +kernel
theorem d_X12_doStep_308 : decode prog_14_method_59_code 308 = .ok (.iload 10, 2) := by decide +kernel
theorem d_X12_doStep_310 : decode prog_14_method_59_code 310 = .ok (.imul, 1) := by decide +kernel
theorem d_X12_doStep_311 : decode prog_14_method_59_code 311 = .ok (.iload 11, 2) := by decide +kernel
theorem d_X12_doStep_313 : decode prog_14_method_59_code 313 = .ok (.iadd, 1) := by decide +kernel
theorem d_X12_doStep_314 : decode prog_14_method_59_code 314 = .ok (.invokevirtual 412, 3) := by decide +kernel
theorem d_X12_doStep_317 : decode prog_14_method_59_code 317 = .ok (.istore 13, 2) := by decide +kernel
theorem d_X12_doStep_319 : decode prog_14_method_59_code 319 = .ok (.iload 12, 2) := by decide +kernel
theorem d_X12_doStep_321 : decode prog_14_method_59_code 321 = .ok (.bipush 60, 2) := by decide +kernel
theorem d_X12_doStep_323 : decode prog_14_method_59_code 323 = .ok (.if_icmp .ge 12, 3) := by decide +kernel
theorem d_X12_doStep_326 : decode prog_14_method_59_code 326 = .ok (.aload_n 0, 1) := by decide +kernel
theorem d_X12_doStep_327 : decode prog_14_method_59_code 327 = .ok (.iload 12, 2) := by decide +kernel
theorem d_X12_doStep_329 : decode prog_14_method_59_code 329 = .ok (.invokevirtual 412, 3) := by decide +kernel
theorem d_X12_doStep_332 : decode prog_14_method_59_code 332 = .ok (.goto 13, 3) := by decide +kernel
theorem d_X12_doStep_335 : decode prog_14_method_59_code 335 = .ok (.aload_n 0, 1) := by decide +kernel
theorem d_X12_doStep_336 : decode prog_14_method_59_code 336 = .ok (.iload_n 3, 1) := by decide +kernel
theorem d_X12_doStep_337 : decode prog_14_method_59_code 337 = .ok (.iload 12, 2) := by decide +kernel
theorem d_X12_doStep_339 : decode prog_14_method_59_code 339 = .ok (.bipush 60, 2) := by decide +kernel
theorem d_X12_doStep_341 : decode prog_14_method_59_code 341 = .ok (.isub, 1) := by decide +kernel
theorem d_X12_doStep_342 : decode prog_14_method_59_code 342 = .ok (.invokevirtual 418, 3) := by decide +kernel
theorem d_X12_doStep_345 : decode prog_14_method_59_code 345 = .ok (.istore 14, 2) := by decide +kernel
theorem d_X12_doStep_347 : decode prog_14_method_59_code 347 = .ok (.aload_n 0, 1) := by decide +kernel
theorem d_X12_doStep_348 : decode prog_14_method_59_code 348 = .ok (.getfield 52, 3) := by decide +kernel
theorem d_X12_doStep_351 : decode prog_14_method_59_code 351 = .ok (.iload 13, 2) := by decide +kernel
theorem d_X12_doStep_353 : decode prog_14_method_59_code 353 = .ok (.iload 14, 2) := by decide +kernel
theorem d_X12_doStep_355 : decode prog_14_method_59_code 355 = .ok (.iastore, 1) := by decide +kernel
theorem d_X12_doStep_356 : decode prog_14_method_59_code 356 = .ok (.aload_n 0, 1) := by decide +kernel
theorem d_X12_doStep_357 : decode prog_14_method_59_code 357 = .ok (.iload 14, 2) := by decide +kernel
theorem d_X12_doStep_359 : decode prog_14_method_59_code 359 = .ok (.iload 13, 2) := by decide +kernel
theorem d_X12_doStep_361 : decode prog_14_method_59_code 361 = .ok (.invokevirtual 421, 3) := by decide +kernel
theorem d_X12_doStep_364 : decode prog_14_method_59_code 364 = .ok (.iinc 11 1, 3) := by decide +kernel
theorem d_X12_doStep_367 : decode prog_14_method_59_code 367 = .ok (.goto (-102), 3) := by decide +kernel
theorem d_X12_doStep_370 : decode prog_14_method_59_code 370 = .ok (.iinc 10 1, 3) := by decide +kernel
theorem d_X12_doStep_373 : decode prog_14_method_59_code 373 = .ok (.goto (-122), 3) := by decide +kernel
theorem d_X12_doStep_376 : decode prog_14_method_59_code 376 = .ok (.iconst 0, 1) := by decide +kernel
theorem d_X12_doStep_377 : decode prog_14_method_59_code 377 = .ok (.istore 10, 2) := by decide +kernel
theorem d_X12_doStep_379 : decode prog_14_method_59_code 379 = .ok (.iload 10, 2) := by decide +kernel
theorem d_X12_doStep_381 : decode prog_14_method_59_code 381 = .ok (.bipush 10, 2) := by decide +kernel
theorem d_X12_doStep_383 : decode prog_14_method_59_code 383 = .ok (.if_icmp .ge 123, 3) := by decide +kernel
theorem d_X12_doStep_386 : decode prog_14_method_59_code 386 = .ok (.iload 10, 2) := by decide +kernel
theorem d_X12_doStep_388 : decode prog_14_method_59_code 388 = .ok (.iconst 5, 1) := by decide +kernel
theorem d_X12_doStep_389 : decode prog_14_method_59_code 389 = .ok (.irem, 1) := by decide +kernel
theorem d_X12_doStep_390 : decode prog_14_method_59_code 390 = .ok (.ifCond .le 27, 3) := by decide +kernel
theorem d_X12_doStep_393 : decode prog_14_method_59_code 393 = .ok (.iload 10, 2) := by decide +kernel
theorem d_X12_doStep_395 : decode prog_14_method_59_code 395 = .ok (.iconst 5, 1) := by decide +kernel
theorem d_X12_doStep_396 : decode prog_14_method_59_code 396 = .ok (.irem, 1) := by decide +kernel
theorem d_X12_doStep_397 : decode prog_14_method_59_code 397 = .ok (.iload 10, 2) := by decide +kernel
theorem d_X12_doStep_399 : decode prog_14_method_59_code 399 = .ok (.iconst 5, 1) := by decide +kernel
theorem d_X12_doStep_400 : decode prog_14_method_59_code 400 = .ok (.if_icmp .ge 8, 3) := by decide +kernel
theorem d_X12_doStep_403 : decode prog_14_method_59_code 403 = .ok (.iload 8, 2) := by decide +kernel
theorem d_X12_doStep_405 : decode prog_14_method_59_code 405 = .ok (.goto 5, 3) := by decide +kernel
theorem d_X12_doStep_408 : decode prog_14_method_59_code 408 = .ok (.iload 9, 2) := by decide +kernel
theorem d_X12_doStep_410 : decode prog_14_method_59_code 410 = .ok (.if_icmp .ge 7, 3) := by decide +kernel
theorem d_X12_doStep_413 : decode prog_14_method_59_code 413 = .ok (.iconst 1, 1) := by decide +kernel
theorem d_X12_doStep_414 : decode prog_14_method_59_code 414 = .ok (.goto 4, 3) := by decide +kernel
theorem d_X12_doStep_417 : decode prog_14_method_59_code 417 = .ok (.iconst 0, 1) := by decide +kernel
theorem d_X12_doStep_418 : decode prog_14_method_59_code 418 = .ok (.istore 11, 2) := by decide +kernel
theorem d_X12_doStep_420 : decode prog_14_method_59_code 420 = .ok (.iload 11, 2) := by decide +kernel
theorem d_X12_doStep_422 : decode prog_14_method_59_code 422 = .ok (.ifCond .eq 78, 3) := by decide +kernel
theorem d_X12_doStep_425 : decode prog_14_method_59_code 425 = .ok (.aload_n 0, 1) := by decide +kernel
theorem d_X12_doStep_426 : decode prog_14_method_59_code 426 = .ok (.getfield 137, 3) := by decide +kernel
theorem d_X12_doStep_429 : decode prog_14_method_59_code 429 = .ok (.iload 10, 2) := by decide +kernel
theorem d_X12_doStep_431 : decode prog_14_method_59_code 431 = .ok (.iaload, 1) := by decide +kernel
theorem d_X12_doStep_432 : decode prog_14_method_59_code 432 = .ok (.sipush 10000, 3) := by decide +kernel
theorem d_X12_doStep_435 : decode prog_14_method_59_code 435 = .ok (.if_icmp .ge 65, 3) := by decide +kernel
theorem d_X12_doStep_438 : decode prog_14_method_59_code 438 = .ok (.aload_n 0, 1) := by decide +kernel
theorem d_X12_doStep_439 : decode prog_14_method_59_code 439 = .ok (.getfield 43, 3) := by decide +kernel
theorem d_X12_doStep_442 : decode prog_14_method_59_code 442 = .ok (.bipush 70, 2) := by decide +kernel
theorem d_X12_doStep_444 : decode prog_14_method_59_code 444 = .ok (.iload_n 3, 1) := by decide +kernel
theorem d_X12_doStep_445 : decode prog_14_method_59_code 445 = .ok (.imul, 1) := by decide +kernel
theorem d_X12_doStep_446 : decode prog_14_method_59_code 446 = .ok (.bipush 60, 2) := by decide +kernel
theorem d_X12_doStep_448 : decode prog_14_method_59_code 448 = .ok (.iadd, 1) := by decide +kernel
theorem d_X12_doStep_449 : decode prog_14_method_59_code 449 = .ok (.iload 10, 2) := by decide +kernel
theorem d_X12_doStep_451 : decode prog_14_method_59_code 451 = .ok (.iadd, 1) := by decide +kernel
theorem d_X12_doStep_452 : decode prog_14_method_59_code 452 = .ok (.iaload, 1) := by decide +kernel
theorem d_X12_doStep_453 : decode prog_14_method_59_code 453 = .ok (.bipush 60, 2) := by decide +kernel
theorem d_X12_doStep_455 : decode prog_14_method_59_code 455 = .ok (.if_icmp .lt 45, 3) := by decide +kernel
theorem d_X12_doStep_458 : decode prog_14_method_59_code 458 = .ok (.aload_n 0, 1) := by decide +kernel
theorem d_X12_doStep_459 : decode prog_14_method_59_code 459 = .ok (.getfield 140, 3) := by decide +kernel
theorem d_X12_doStep_462 : decode prog_14_method_59_code 462 = .ok (.iload 10, 2) := by decide +kernel
theorem d_X12_doStep_464 : decode prog_14_method_59_code 464 = .ok (.iconst 1, 1) := by decide +kernel
theorem d_X12_doStep_465 : decode prog_14_method_59_code 465 = .ok (.bastore, 1) := by decide +kernel
theorem d_X12_doStep_466 : decode prog_14_method_59_code 466 = .ok (.aload_n 0, 1) := by decide +kernel
theorem d_X12_doStep_467 : decode prog_14_method_59_code 467 = .ok (.aload_n 0, 1) := by decide +kernel
theorem d_X12_doStep_468 : decode prog_14_method_59_code 468 = .ok (.getfield 137, 3) := by decide +kernel
theorem d_X12_doStep_471 : decode prog_14_method_59_code 471 = .ok (.iload 10, 2) := by decide +kernel
theorem d_X12_doStep_473 : decode prog_14_method_59_code 473 = .ok (.iaload, 1) := by decide +kernel
theorem d_X12_doStep_474 : decode prog_14_method_59_code 474 = .ok (.aload_n 0, 1) := by decide +kernel
theorem d_X12_doStep_475 : decode prog_14_method_59_code 475 = .ok (.iload_n 3, 1) := by decide +kernel
theorem d_X12_doStep_476 : decode prog_14_method_59_code 476 = .ok (.aload_n 0, 1) := by decide +kernel
theorem d_X12_doStep_477 : decode prog_14_method_59_code 477 = .ok (.getfield 43, 3) := by decide +kernel
theorem d_X12_doStep_480 : decode prog_14_method_59_code 480 = .ok (.bipush 70, 2) := by decide +kernel
theorem d_X12_doStep_482 : decode prog_14_method_59_code 482 = .ok (.iload_n 3, 1) := by decide +kernel
theorem d_X12_doStep_483 : decode prog_14_method_59_code 483 = .ok (.imul, 1) := by decide +kernel
theorem d_X12_doStep_484 : decode prog_14_method_59_code 484 = .ok (.bipush 60, 2) := by decide +kernel
theorem d_X12_doStep_486 : decode prog_14_method_59_code 486 = .ok (.iadd, 1) := by decide +kernel
theorem d_X12_doStep_487 : decode prog_14_method_59_code 487 = .ok (.iload 10, 2) := by decide +kernel
theorem d_X12_doStep_489 : decode prog_14_method_59_code 489 = .ok (.iadd, 1) := by decide +kernel
theorem d_X12_doStep_490 : decode prog_14_method_59_code 490 = .ok (.iaload, 1) := by decide +kernel
theorem d_X12_doStep_491 : decode prog_14_method_59_code 491 = .ok (.bipush 60, 2) := by decide +kernel
theorem d_X12_doStep_493 : decode prog_14_method_59_code 493 = .ok (.isub, 1) := by decide +kernel
theorem d_X12_doStep_494 : decode prog_14_method_59_code 494 = .ok (.invokevirtual 418, 3) := by decide +kernel
theorem d_X12_doStep_497 : decode prog_14_method_59_code 497 = .ok (.invokevirtual 421, 3) := by decide +kernel
theorem d_X12_doStep_500 : decode prog_14_method_59_code 500 = .ok (.iinc 10 1, 3) := by decide +kernel
theorem d_X12_doStep_503 : decode prog_14_method_59_code 503 = .ok (.goto (-124), 3) := by decide +kernel
theorem d_X12_doStep_506 : decode prog_14_method_59_code 506 = .ok (.aload_n 0, 1) := by decide +kernel
theorem d_X12_doStep_507 : decode prog_14_method_59_code 507 = .ok (.dup, 1) := by decide +kernel
theorem d_X12_doStep_508 : decode prog_14_method_59_code 508 = .ok (.getfield 185, 3) := by decide +kernel
theorem d_X12_doStep_511 : decode prog_14_method_59_code 511 = .ok (.aload_n 0, 1) := by decide +kernel
theorem d_X12_doStep_512 : decode prog_14_method_59_code 512 = .ok (.getfield 46, 3) := by decide +kernel
theorem d_X12_doStep_515 : decode prog_14_method_59_code 515 = .ok (.iload_n 3, 1) := by decide +kernel
theorem d_X12_doStep_516 : decode prog_14_method_59_code 516 = .ok (.iaload, 1) := by decide +kernel
theorem d_X12_doStep_517 : decode prog_14_method_59_code 517 = .ok (.iadd, 1) := by decide +kernel
theorem d_X12_doStep_518 : decode prog_14_method_59_code 518 = .ok (.putfield 185, 3) := by decide +kernel
theorem d_X12_doStep_521 : decode prog_14_method_59_code 521 = .ok (.iconst 0, 1) := by decide +kernel
theorem d_X12_doStep_522 : decode prog_14_method_59_code 522 = .ok (.istore 10, 2) := by decide +kernel
theorem d_X12_doStep_524 : decode prog_14_method_59_code 524 = .ok (.iload 10, 2) := by decide +kernel
theorem d_X12_doStep_526 : decode prog_14_method_59_code 526 = .ok (.bipush 10, 2) := by decide +kernel
theorem d_X12_doStep_528 : decode prog_14_method_59_code 528 = .ok (.if_icmp .ge 95, 3) := by decide +kernel
theorem d_X12_doStep_531 : decode prog_14_method_59_code 531 = .ok (.iload 10, 2) := by decide +kernel
theorem d_X12_doStep_533 : decode prog_14_method_59_code 533 = .ok (.iconst 5, 1) := by decide +kernel
theorem d_X12_doStep_534 : decode prog_14_method_59_code 534 = .ok (.irem, 1) := by decide +kernel
theorem d_X12_doStep_535 : decode prog_14_method_59_code 535 = .ok (.ifCond .le 27, 3) := by decide +kernel
theorem d_X12_doStep_538 : decode prog_14_method_59_code 538 = .ok (.iload 10, 2) := by decide +kernel
theorem d_X12_doStep_540 : decode prog_14_method_59_code 540 = .ok (.iconst 5, 1) := by decide +kernel
theorem d_X12_doStep_541 : decode prog_14_method_59_code 541 = .ok (.irem, 1) := by decide +kernel
theorem d_X12_doStep_542 : decode prog_14_method_59_code 542 = .ok (.iload 10, 2) := by decide +kernel
theorem d_X12_doStep_544 : decode prog_14_method_59_code 544 = .ok (.iconst 5, 1) := by decide +kernel
theorem d_X12_doStep_545 : decode prog_14_method_59_code 545 = .ok (.if_icmp .ge 8, 3) := by decide +kernel
theorem d_X12_doStep_548 : decode prog_14_method_59_code 548 = .ok (.iload 8, 2) := by decide +kernel
theorem d_X12_doStep_550 : decode prog_14_method_59_code 550 = .ok (.goto 5, 3) := by decide +kernel
theorem d_X12_doStep_553 : decode prog_14_method_59_code 553 = .ok (.iload 9, 2) := by decide +kernel
theorem d_X12_doStep_555 : decode prog_14_method_59_code 555 = .ok (.if_icmp .ge 7, 3) := by decide +kernel
theorem d_X12_doStep_558 : decode prog_14_method_59_code 558 = .ok (.iconst 1, 1) := by decide +kernel
theorem d_X12_doStep_559 : decode prog_14_method_59_code 559 = .ok (.goto 4, 3) := by decide +kernel
theorem d_X12_doStep_562 : decode prog_14_method_59_code 562 = .ok (.iconst 0, 1) := by decide +kernel
theorem d_X12_doStep_563 : decode prog_14_method_59_code 563 = .ok (.istore 11, 2) := by decide +kernel
theorem d_X12_doStep_565 : decode prog_14_method_59_code 565 = .ok (.iload 11, 2) := by decide +kernel
theorem d_X12_doStep_567 : decode prog_14_method_59_code 567 = .ok (.ifCond .eq 50, 3) := by decide +kernel
theorem d_X12_doStep_570 : decode prog_14_method_59_code 570 = .ok (.aload_n 0, 1) := by decide +kernel
theorem d_X12_doStep_571 : decode prog_14_method_59_code 571 = .ok (.getfield 140, 3) := by decide +kernel
theorem d_X12_doStep_574 : decode prog_14_method_59_code 574 = .ok (.iload 10, 2) := by decide +kernel
theorem d_X12_doStep_576 : decode prog_14_method_59_code 576 = .ok (.baload, 1) := by decide +kernel
theorem d_X12_doStep_577 : decode prog_14_method_59_code 577 = .ok (.ifCond .ne 40, 3) := by decide +kernel
theorem d_X12_doStep_580 : decode prog_14_method_59_code 580 = .ok (.aload_n 0, 1) := by decide +kernel
theorem d_X12_doStep_581 : decode prog_14_method_59_code 581 = .ok (.getfield 137, 3) := by decide +kernel
theorem d_X12_doStep_584 : decode prog_14_method_59_code 584 = .ok (.iload 10, 2) := by decide +kernel
theorem d_X12_doStep_586 : decode prog_14_method_59_code 586 = .ok (.iaload, 1) := by decide +kernel
theorem d_X12_doStep_587 : decode prog_14_method_59_code 587 = .ok (.sipush 10000, 3) := by decide +kernel
theorem d_X12_doStep_590 : decode prog_14_method_59_code 590 = .ok (.if_icmp .lt 27, 3) := by decide +kernel
theorem d_X12_doStep_593 : decode prog_14_method_59_code 593 = .ok (.aload_n 0, 1) := by decide +kernel
theorem d_X12_doStep_594 : decode prog_14_method_59_code 594 = .ok (.dup, 1) := by decide +kernel
theorem d_X12_doStep_595 : decode prog_14_method_59_code 595 = .ok (.getfield 185, 3) := by decide +kernel
theorem d_X12_doStep_598 : decode prog_14_method_59_code 598 = .ok (.aload_n 0, 1) := by decide +kernel
theorem d_X12_doStep_599 : decode prog_14_method_59_code 599 = .ok (.iload_n 3, 1) := by decide +kernel
theorem d_X12_doStep_600 : decode prog_14_method_59_code 600 = .ok (.iload 10, 2) := by decide +kernel
theorem d_X12_doStep_602 : decode prog_14_method_59_code 602 = .ok (.invokevirtual 424, 3) := by decide +kernel
theorem d_X12_doStep_605 : decode prog_14_method_59_code 605 = .ok (.ifCond .eq 7, 3) := by decide +kernel
theorem d_X12_doStep_608 : decode prog_14_method_59_code 608 = .ok (.iconst 1, 1) := by decide +kernel
theorem d_X12_doStep_609 : decode prog_14_method_59_code 609 = .ok (.goto 4, 3) := by decide +kernel
theorem d_X12_doStep_612 : decode prog_14_method_59_code 612 = .ok (.iconst 0, 1) := by decide +kernel
theorem d_X12_doStep_613 : decode prog_14_method_59_code 613 = .ok (.iadd, 1) := by decide +kernel
theorem d_X12_doStep_614 : decode prog_14_method_59_code 614 = .ok (.putfield 185, 3) := by decide +kernel
theorem d_X12_doStep_617 : decode prog_14_method_59_code 617 = .ok (.iinc 10 1, 3) := by decide +kernel
theorem d_X12_doStep_620 : decode prog_14_method_59_code 620 = .ok (.goto (-96), 3) := by decide +kernel
theorem d_X12_doStep_623 : decode prog_14_method_59_code 623 = .ok (.aload_n 0, 1) := by decide +kernel
theorem d_X12_doStep_624 : decode prog_14_method_59_code 624 = .ok (.dup, 1) := by decide +kernel
theorem d_X12_doStep_625 : decode prog_14_method_59_code 625 = .ok (.getfield 360, 3) := by decide +kernel
theorem d_X12_doStep_628 : decode prog_14_method_59_code 628 = .ok (.iconst 1, 1) := by decide +kernel
theorem d_X12_doStep_629 : decode prog_14_method_59_code 629 = .ok (.iadd, 1) := by decide +kernel
theorem d_X12_doStep_630 : decode prog_14_method_59_code 630 = .ok (.putfield 360, 3) := by decide +kernel
theorem d_X12_doStep_633 : decode prog_14_method_59_code 633 = .ok (.aload_n 0, 1) := by decide +kernel
theorem d_X12_doStep_634 : decode prog_14_method_59_code 634 = .ok (.invokevirtual 388, 3) := by decide +kernel
theorem d_X12_doStep_637 : decode prog_14_method_59_code 637 = .ok (.istore 10, 2) := by decide +kernel
theorem d_X12_doStep_639 : decode prog_14_method_59_code 639 = .ok (.aload_n 0, 1) := by decide +kernel
theorem d_X12_doStep_640 : decode prog_14_method_59_code 640 = .ok (.iload 10, 2) := by decide +kernel
theorem d_X12_doStep_642 : decode prog_14_method_59_code 642 = .ok (.aload_n 0, 1) := by decide +kernel
theorem d_X12_doStep_643 : decode prog_14_method_59_code 643 = .ok (.getfield 363, 3) := by decide +kernel
theorem d_X12_doStep_646 : decode prog_14_method_59_code 646 = .ok (.if_icmp .le 8, 3) := by decide +kernel
theorem d_X12_doStep_649 : decode prog_14_method_59_code 649 = .ok (.iload 10, 2) := by decide +kernel
theorem d_X12_doStep_651 : decode prog_14_method_59_code 651 = .ok (.goto 7, 3) := by decide +kernel
theorem d_X12_doStep_654 : decode prog_14_method_59_code 654 = .ok (.aload_n 0, 1) := by decide +kernel
theorem d_X12_doStep_655 : decode prog_14_method_59_code 655 = .ok (.getfield 363, 3) := by decide +kernel
theorem d_X12_doStep_658 : decode prog_14_method_59_code 658 = .ok (.putfield 363, 3) := by decide +kernel
theorem d_X12_doStep_661 : decode prog_14_method_59_code 661 = .ok (.iconst 1, 1) := by decide +kernel
theorem d_X12_doStep_662 : decode prog_14_method_59_code 662 = .ok (.ireturn, 1) := by decide +kernel
theorem d_X12_draw_0 : decode prog_14_method_66_code 0 = .ok (.aload_n 0, 1) := by decide +kernel
theorem d_X12_draw_1 : decode prog_14_method_66_code 1 = .ok (.iload_n 1, 1) := by decide +kernel
theorem d_X12_draw_2 : decode prog_14_method_66_code 2 = .ok (.i2l, 1) := by decide +kernel
theorem d_X12_draw_3 : decode prog_14_method_66_code 3 = .ok (.putfield 58, 3) := by decide +kernel
theorem d_X12_draw_6 : decode prog_14_method_66_code 6 = .ok (.iconst 1, 1) := by decide +kernel
theorem d_X12_draw_7 : decode prog_14_method_66_code 7 = .ok (.ireturn, 1) := by decide +kernel
theorem d_X12_empty_0 : decode prog_14_method_4_code 0 = .ok (.iconst 0, 1) := by decide +kernel
theorem d_X12_empty_1 : decode prog_14_method_4_code 1 = .ok (.istore_n 1, 1) := by decide +kernel
theorem d_X12_empty_2 : decode prog_14_method_4_code 2 = .ok (.iload_n 1, 1) := by decide +kernel
theorem d_X12_empty_3 : decode prog_14_method_4_code 3 = .ok (.sipush 400, 3) := by decide +kernel
theorem d_X12_empty_6 : decode prog_14_method_4_code 6 = .ok (.if_icmp .ge 16, 3) := by decide +kernel
theorem d_X12_empty_9 : decode prog_14_method_4_code 9 = .ok (.aload_n 0, 1) := by decide +kernel
theorem d_X12_empty_10 : decode prog_14_method_4_code 10 = .ok (.getfield 49, 3) := by decide +kernel
theorem d_X12_empty_13 : decode prog_14_method_4_code 13 = .ok (.iload_n 1, 1) := by decide +kernel
theorem d_X12_empty_14 : decode prog_14_method_4_code 14 = .ok (.iconst (-1), 1) := by decide +kernel
theorem d_X12_empty_15 : decode prog_14_method_4_code 15 = .ok (.iastore, 1) := by decide +kernel
theorem d_X12_empty_16 : decode prog_14_method_4_code 16 = .ok (.iinc 1 1, 3) := by decide +kernel
theorem d_X12_empty_19 : decode prog_14_method_4_code 19 = .ok (.goto (-17), 3) := by decide +kernel
theorem d_X12_empty_22 : decode prog_14_method_4_code 22 = .ok (.aload_n 0, 1) := by decide +kernel
theorem d_X12_empty_23 : decode prog_14_method_4_code 23 = .ok (.iconst 0, 1) := by decide +kernel
theorem d_X12_empty_24 : decode prog_14_method_4_code 24 = .ok (.putfield 182, 3) := by decide +kernel
theorem d_X12_empty_27 : decode prog_14_method_4_code 27 = .ok (.aload_n 0, 1) := by decide +kernel
theorem d_X12_empty_28 : decode prog_14_method_4_code 28 = .ok (.iconst 0, 1) := by decide +kernel
theorem d_X12_empty_29 : decode prog_14_method_4_code 29 = .ok (.putfield 185, 3) := by decide +kernel
theorem d_X12_empty_32 : decode prog_14_method_4_code 32 = .ok (.return_, 1) := by decide +kernel
theorem d_X12_end_0 : decode prog_14_method_54_code 0 = .ok (.iload_n 1, 1) := by decide +kernel
theorem d_X12_end_1 : decode prog_14_method_54_code 1 = .ok (.i2l, 1) := by decide +kernel
theorem d_X12_end_2 : decode prog_14_method_54_code 2 = .ok (.lconst 0, 1) := by decide +kernel
theorem d_X12_end_3 : decode prog_14_method_54_code 3 = .ok (.aload_n 0, 1) := by decide +kernel
theorem d_X12_end_4 : decode prog_14_method_54_code 4 = .ok (.getfield 182, 3) := by decide +kernel
theorem d_X12_end_7 : decode prog_14_method_54_code 7 = .ok (.iconst 1, 1) := by decide +kernel
theorem d_X12_end_8 : decode prog_14_method_54_code 8 = .ok (.isub, 1) := by decide +kernel
theorem d_X12_end_9 : decode prog_14_method_54_code 9 = .ok (.i2l, 1) := by decide +kernel
theorem d_X12_end_10 : decode prog_14_method_54_code 10 = .ok (.invokestatic 191, 3) := by decide +kernel
theorem d_X12_end_13 : decode prog_14_method_54_code 13 = .ok (.ifCond .eq 15, 3) := by decide +kernel
theorem d_X12_end_16 : decode prog_14_method_54_code 16 = .ok (.aload_n 0, 1) := by decide +kernel
theorem d_X12_end_17 : decode prog_14_method_54_code 17 = .ok (.getfield 55, 3) := by decide +kernel
theorem d_X12_end_20 : decode prog_14_method_54_code 20 = .ok (.iload_n 1, 1) := by decide +kernel
theorem d_X12_end_21 : decode prog_14_method_54_code 21 = .ok (.iaload, 1) := by decide +kernel
theorem d_X12_end_22 : decode prog_14_method_54_code 22 = .ok (.invokestatic 409, 3) := by decide +kernel
theorem d_X12_end_25 : decode prog_14_method_54_code 25 = .ok (.goto 6, 3) := by decide +kernel
theorem d_X12_end_28 : decode prog_14_method_54_code 28 = .ok (.sipush (-1001), 3) := by decide +kernel
theorem d_X12_end_31 : decode prog_14_method_54_code 31 = .ok (.ireturn, 1) := by decide +kernel
theorem d_X12_endTo_0 : decode prog_14_method_73_code 0 = .ok (.iload_n 1, 1) := by decide +kernel
theorem d_X12_endTo_1 : decode prog_14_method_73_code 1 = .ok (.ifCond .ne 12, 3) := by decide +kernel
theorem d_X12_endTo_4 : decode prog_14_method_73_code 4 = .ok (.aload_n 0, 1) := by decide +kernel
theorem d_X12_endTo_5 : decode prog_14_method_73_code 5 = .ok (.getfield 55, 3) := by decide +kernel
theorem d_X12_endTo_8 : decode prog_14_method_73_code 8 = .ok (.iload_n 3, 1) := by decide +kernel
theorem d_X12_endTo_9 : decode prog_14_method_73_code 9 = .ok (.iaload, 1) := by decide +kernel
theorem d_X12_endTo_10 : decode prog_14_method_73_code 10 = .ok (.goto 14, 3) := by decide +kernel
theorem d_X12_endTo_13 : decode prog_14_method_73_code 13 = .ok (.aload_n 0, 1) := by decide +kernel
theorem d_X12_endTo_14 : decode prog_14_method_73_code 14 = .ok (.getfield 155, 3) := by decide +kernel
theorem d_X12_endTo_17 : decode prog_14_method_73_code 17 = .ok (.bipush 8, 2) := by decide +kernel
theorem d_X12_endTo_19 : decode prog_14_method_73_code 19 = .ok (.iload_n 2, 1) := by decide +kernel
theorem d_X12_endTo_20 : decode prog_14_method_73_code 20 = .ok (.imul, 1) := by decide +kernel
theorem d_X12_endTo_21 : decode prog_14_method_73_code 21 = .ok (.iload_n 3, 1) := by decide +kernel
theorem d_X12_endTo_22 : decode prog_14_method_73_code 22 = .ok (.iadd, 1) := by decide +kernel
theorem d_X12_endTo_23 : decode prog_14_method_73_code 23 = .ok (.iaload, 1) := by decide +kernel
theorem d_X12_endTo_24 : decode prog_14_method_73_code 24 = .ok (.ireturn, 1) := by decide +kernel
theorem d_X12_fail_0 : decode prog_14_method_14_code 0 = .ok (.aload_n 0, 1) := by decide +kernel
theorem d_X12_fail_1 : decode prog_14_method_14_code 1 = .ok (.iload_n 1, 1) := by decide +kernel
theorem d_X12_fail_2 : decode prog_14_method_14_code 2 = .ok (.putfield 231, 3) := by decide +kernel
theorem d_X12_fail_5 : decode prog_14_method_14_code 5 = .ok (.aload_n 0, 1) := by decide +kernel
theorem d_X12_fail_6 : decode prog_14_method_14_code 6 = .ok (.iload_n 2, 1) := by decide +kernel
theorem d_X12_fail_7 : decode prog_14_method_14_code 7 = .ok (.putfield 13, 3) := by decide +kernel
theorem d_X12_fail_10 : decode prog_14_method_14_code 10 = .ok (.iconst 0, 1) := by decide +kernel
theorem d_X12_fail_11 : decode prog_14_method_14_code 11 = .ok (.ireturn, 1) := by decide +kernel
theorem d_X12_feed_0 : decode prog_14_method_5_code 0 = .ok (.aload_n 0, 1) := by decide +kernel
theorem d_X12_feed_1 : decode prog_14_method_5_code 1 = .ok (.getfield 188, 3) := by decide +kernel
theorem d_X12_feed_4 : decode prog_14_method_5_code 4 = .ok (.bipush 20, 2) := by decide +kernel
theorem d_X12_feed_6 : decode prog_14_method_5_code 6 = .ok (.iadd, 1) := by decide +kernel
theorem d_X12_feed_7 : decode prog_14_method_5_code 7 = .ok (.sipush 4000, 3) := by decide +kernel
theorem d_X12_feed_10 : decode prog_14_method_5_code 10 = .ok (.if_icmp .le 7, 3) := by decide +kernel
theorem d_X12_feed_13 : decode prog_14_method_5_code 13 = .ok (.sipush (-1004), 3) := by decide +kernel
theorem d_X12_feed_16 : decode prog_14_method_5_code 16 = .ok (.ireturn, 1) := by decide +kernel
theorem d_X12_feed_17 : decode prog_14_method_5_code 17 = .ok (.iconst 0, 1) := by decide +kernel
theorem d_X12_feed_18 : decode prog_14_method_5_code 18 = .ok (.istore 6, 2) := by decide +kernel
theorem d_X12_feed_20 : decode prog_14_method_5_code 20 = .ok (.iload 6, 2) := by decide +kernel
theorem d_X12_feed_22 : decode prog_14_method_5_code 22 = .ok (.bipush 20, 2) := by decide +kernel
theorem d_X12_feed_24 : decode prog_14_method_5_code 24 = .ok (.if_icmp .ge 93, 3) := by decide +kernel
theorem d_X12_feed_27 : decode prog_14_method_5_code 27 = .ok (.iload 6, 2) := by decide +kernel
theorem d_X12_feed_29 : decode prog_14_method_5_code 29 = .ok (.iconst 4, 1) := by decide +kernel
theorem d_X12_feed_30 : decode prog_14_method_5_code 30 = .ok (.if_icmp .ge 7, 3) := by decide +kernel
theorem d_X12_feed_33 : decode prog_14_method_5_code 33 = .ok (.iload_n 1, 1) := by decide +kernel
theorem d_X12_feed_34 : decode prog_14_method_5_code 34 = .ok (.goto 39, 3) := by decide +kernel
theorem d_X12_feed_37 : decode prog_14_method_5_code 37 = .ok (.iload 6, 2) := by decide +kernel
theorem d_X12_feed_39 : decode prog_14_method_5_code 39 = .ok (.bipush 8, 2) := by decide +kernel
theorem d_X12_feed_41 : decode prog_14_method_5_code 41 = .ok (.if_icmp .ge 7, 3) := by decide +kernel
theorem d_X12_feed_44 : decode prog_14_method_5_code 44 = .ok (.iload_n 2, 1) := by decide +kernel
theorem d_X12_feed_45 : decode prog_14_method_5_code 45 = .ok (.goto 28, 3) := by decide +kernel
theorem d_X12_feed_48 : decode prog_14_method_5_code 48 = .ok (.iload 6, 2) := by decide +kernel
theorem d_X12_feed_50 : decode prog_14_method_5_code 50 = .ok (.bipush 12, 2) := by decide +kernel
theorem d_X12_feed_52 : decode prog_14_method_5_code 52 = .ok (.if_icmp .ge 7, 3) := by decide +kernel
theorem d_X12_feed_55 : decode prog_14_method_5_code 55 = .ok (.iload_n 3, 1) := by decide +kernel
theorem d_X12_feed_56 : decode prog_14_method_5_code 56 = .ok (.goto 17, 3) := by decide +kernel
theorem d_X12_feed_59 : decode prog_14_method_5_code 59 = .ok (.iload 6, 2) := by decide +kernel
theorem d_X12_feed_61 : decode prog_14_method_5_code 61 = .ok (.bipush 16, 2) := by decide +kernel
theorem d_X12_feed_63 : decode prog_14_method_5_code 63 = .ok (.if_icmp .ge 8, 3) := by decide +kernel
theorem d_X12_feed_66 : decode prog_14_method_5_code 66 = .ok (.iload 4, 2) := by decide +kernel
theorem d_X12_feed_68 : decode prog_14_method_5_code 68 = .ok (.goto 5, 3) := by decide +kernel
theorem d_X12_feed_71 : decode prog_14_method_5_code 71 = .ok (.iload 5, 2) := by decide +kernel
theorem d_X12_feed_73 : decode prog_14_method_5_code 73 = .ok (.istore 7, 2) := by decide +kernel
theorem d_X12_feed_75 : decode prog_14_method_5_code 75 = .ok (.aload_n 0, 1) := by decide +kernel
theorem d_X12_feed_76 : decode prog_14_method_5_code 76 = .ok (.getfield 7, 3) := by decide +kernel
theorem d_X12_feed_79 : decode prog_14_method_5_code 79 = .ok (.aload_n 0, 1) := by decide +kernel
theorem d_X12_feed_80 : decode prog_14_method_5_code 80 = .ok (.getfield 188, 3) := by decide +kernel
theorem d_X12_feed_83 : decode prog_14_method_5_code 83 = .ok (.iload 7, 2) := by decide +kernel
theorem d_X12_feed_85 : decode prog_14_method_5_code 85 = .ok (.bipush 24, 2) := by decide +kernel
theorem d_X12_feed_87 : decode prog_14_method_5_code 87 = .ok (.bipush 8, 2) := by decide +kernel
theorem d_X12_feed_89 : decode prog_14_method_5_code 89 = .ok (.iload 6, 2) := by decide +kernel
theorem d_X12_feed_91 : decode prog_14_method_5_code 91 = .ok (.iconst 4, 1) := by decide +kernel
theorem d_X12_feed_92 : decode prog_14_method_5_code 92 = .ok (.irem, 1) := by decide +kernel
theorem d_X12_feed_93 : decode prog_14_method_5_code 93 = .ok (.imul, 1) := by decide +kernel
theorem d_X12_feed_94 : decode prog_14_method_5_code 94 = .ok (.isub, 1) := by decide +kernel
theorem d_X12_feed_95 : decode prog_14_method_5_code 95 = .ok (.ishr, 1) := by decide +kernel
theorem d_X12_feed_96 : decode prog_14_method_5_code 96 = .ok (.sipush 255, 3) := by decide +kernel
theorem d_X12_feed_99 : decode prog_14_method_5_code 99 = .ok (.iand, 1) := by decide +kernel
theorem d_X12_feed_100 : decode prog_14_method_5_code 100 = .ok (.iastore, 1) := by decide +kernel
theorem d_X12_feed_101 : decode prog_14_method_5_code 101 = .ok (.aload_n 0, 1) := by decide +kernel
theorem d_X12_feed_102 : decode prog_14_method_5_code 102 = .ok (.dup, 1) := by decide +kernel
theorem d_X12_feed_103 : decode prog_14_method_5_code 103 = .ok (.getfield 188, 3) := by decide +kernel
theorem d_X12_feed_106 : decode prog_14_method_5_code 106 = .ok (.iconst 1, 1) := by decide +kernel
theorem d_X12_feed_107 : decode prog_14_method_5_code 107 = .ok (.iadd, 1) := by decide +kernel
theorem d_X12_feed_108 : decode prog_14_method_5_code 108 = .ok (.putfield 188, 3) := by decide +kernel
theorem d_X12_feed_111 : decode prog_14_method_5_code 111 = .ok (.iinc 6 1, 3) := by decide +kernel
theorem d_X12_feed_114 : decode prog_14_method_5_code 114 = .ok (.goto (-94), 3) := by decide +kernel
theorem d_X12_feed_117 : decode prog_14_method_5_code 117 = .ok (.aload_n 0, 1) := by decide +kernel
theorem d_X12_feed_118 : decode prog_14_method_5_code 118 = .ok (.getfield 188, 3) := by decide +kernel
theorem d_X12_feed_121 : decode prog_14_method_5_code 121 = .ok (.ireturn, 1) := by decide +kernel
theorem d_X12_follow_0 : decode prog_14_method_26_code 0 = .ok (.iload_n 1, 1) := by decide +kernel
theorem d_X12_follow_1 : decode prog_14_method_26_code 1 = .ok (.istore_n 2, 1) := by decide +kernel
theorem d_X12_follow_2 : decode prog_14_method_26_code 2 = .ok (.iload_n 2, 1) := by decide +kernel
theorem d_X12_follow_3 : decode prog_14_method_26_code 3 = .ok (.sipush 1000, 3) := by decide +kernel
theorem d_X12_follow_6 : decode prog_14_method_26_code 6 = .ok (.if_icmp .lt 83, 3) := by decide +kernel
theorem d_X12_follow_9 : decode prog_14_method_26_code 9 = .ok (.iload_n 2, 1) := by decide +kernel
theorem d_X12_follow_10 : decode prog_14_method_26_code 10 = .ok (.sipush 1200, 3) := by decide +kernel
theorem d_X12_follow_13 : decode prog_14_method_26_code 13 = .ok (.if_icmp .ge 76, 3) := by decide +kernel
theorem d_X12_follow_16 : decode prog_14_method_26_code 16 = .ok (.aload_n 0, 1) := by decide +kernel
theorem d_X12_follow_17 : decode prog_14_method_26_code 17 = .ok (.getfield 122, 3) := by decide +kernel
theorem d_X12_follow_20 : decode prog_14_method_26_code 20 = .ok (.iload_n 2, 1) := by decide +kernel
theorem d_X12_follow_21 : decode prog_14_method_26_code 21 = .ok (.iconst 1, 1) := by decide +kernel
theorem d_X12_follow_22 : decode prog_14_method_26_code 22 = .ok (.bastore, 1) := by decide +kernel
theorem d_X12_follow_23 : decode prog_14_method_26_code 23 = .ok (.iload_n 2, 1) := by decide +kernel
theorem d_X12_follow_24 : decode prog_14_method_26_code 24 = .ok (.sipush 1000, 3) := by decide +kernel
theorem d_X12_follow_27 : decode prog_14_method_26_code 27 = .ok (.isub, 1) := by decide +kernel
theorem d_X12_follow_28 : decode prog_14_method_26_code 28 = .ok (.iconst 2, 1) := by decide +kernel
theorem d_X12_follow_29 : decode prog_14_method_26_code 29 = .ok (.idiv, 1) := by decide +kernel
theorem d_X12_follow_30 : decode prog_14_method_26_code 30 = .ok (.istore_n 3, 1) := by decide +kernel
theorem d_X12_follow_31 : decode prog_14_method_26_code 31 = .ok (.aload_n 0, 1) := by decide +kernel
theorem d_X12_follow_32 : decode prog_14_method_26_code 32 = .ok (.getfield 110, 3) := by decide +kernel
theorem d_X12_follow_35 : decode prog_14_method_26_code 35 = .ok (.iload_n 3, 1) := by decide +kernel
theorem d_X12_follow_36 : decode prog_14_method_26_code 36 = .ok (.iaload, 1) := by decide +kernel
theorem d_X12_follow_37 : decode prog_14_method_26_code 37 = .ok (.iconst 1, 1) := by decide +kernel
theorem d_X12_follow_38 : decode prog_14_method_26_code 38 = .ok (.if_icmp .ne 13, 3) := by decide +kernel
theorem d_X12_follow_41 : decode prog_14_method_26_code 41 = .ok (.bipush (-2), 2) := by decide +kernel
theorem d_X12_follow_43 : decode prog_14_method_26_code 43 = .ok (.aload_n 0, 1) := by decide +kernel
theorem d_X12_follow_44 : decode prog_14_method_26_code 44 = .ok (.getfield 125, 3) := by decide +kernel
theorem d_X12_follow_47 : decode prog_14_method_26_code 47 = .ok (.iload_n 3, 1) := by decide +kernel
theorem d_X12_follow_48 : decode prog_14_method_26_code 48 = .ok (.iaload, 1) := by decide +kernel
theorem d_X12_follow_49 : decode prog_14_method_26_code 49 = .ok (.isub, 1) := by decide +kernel
theorem d_X12_follow_50 : decode prog_14_method_26_code 50 = .ok (.ireturn, 1) := by decide +kernel
theorem d_X12_follow_51 : decode prog_14_method_26_code 51 = .ok (.sipush 1000, 3) := by decide +kernel
theorem d_X12_follow_54 : decode prog_14_method_26_code 54 = .ok (.iconst 2, 1) := by decide +kernel
theorem d_X12_follow_55 : decode prog_14_method_26_code 55 = .ok (.iload_n 3, 1) := by decide +kernel
theorem d_X12_follow_56 : decode prog_14_method_26_code 56 = .ok (.imul, 1) := by decide +kernel
theorem d_X12_follow_57 : decode prog_14_method_26_code 57 = .ok (.iadd, 1) := by decide +kernel
theorem d_X12_follow_58 : decode prog_14_method_26_code 58 = .ok (.iconst 1, 1) := by decide +kernel
theorem d_X12_follow_59 : decode prog_14_method_26_code 59 = .ok (.iadd, 1) := by decide +kernel
theorem d_X12_follow_60 : decode prog_14_method_26_code 60 = .ok (.iload_n 2, 1) := by decide +kernel
theorem d_X12_follow_61 : decode prog_14_method_26_code 61 = .ok (.sipush 1000, 3) := by decide +kernel
theorem d_X12_follow_64 : decode prog_14_method_26_code 64 = .ok (.isub, 1) := by decide +kernel
theorem d_X12_follow_65 : decode prog_14_method_26_code 65 = .ok (.iconst 2, 1) := by decide +kernel
theorem d_X12_follow_66 : decode prog_14_method_26_code 66 = .ok (.irem, 1) := by decide +kernel
theorem d_X12_follow_67 : decode prog_14_method_26_code 67 = .ok (.isub, 1) := by decide +kernel
theorem d_X12_follow_68 : decode prog_14_method_26_code 68 = .ok (.istore 4, 2) := by decide +kernel
theorem d_X12_follow_70 : decode prog_14_method_26_code 70 = .ok (.aload_n 0, 1) := by decide +kernel
theorem d_X12_follow_71 : decode prog_14_method_26_code 71 = .ok (.getfield 122, 3) := by decide +kernel
theorem d_X12_follow_74 : decode prog_14_method_26_code 74 = .ok (.iload 4, 2) := by decide +kernel
theorem d_X12_follow_76 : decode prog_14_method_26_code 76 = .ok (.iconst 1, 1) := by decide +kernel
theorem d_X12_follow_77 : decode prog_14_method_26_code 77 = .ok (.bastore, 1) := by decide +kernel
theorem d_X12_follow_78 : decode prog_14_method_26_code 78 = .ok (.aload_n 0, 1) := by decide +kernel
theorem d_X12_follow_79 : decode prog_14_method_26_code 79 = .ok (.getfield 104, 3) := by decide +kernel
theorem d_X12_follow_82 : decode prog_14_method_26_code 82 = .ok (.iload 4, 2) := by decide +kernel
theorem d_X12_follow_84 : decode prog_14_method_26_code 84 = .ok (.iaload, 1) := by decide +kernel
theorem d_X12_follow_85 : decode prog_14_method_26_code 85 = .ok (.istore_n 2, 1) := by decide +kernel
theorem d_X12_follow_86 : decode prog_14_method_26_code 86 = .ok (.goto (-84), 3) := by decide +kernel
theorem d_X12_follow_89 : decode prog_14_method_26_code 89 = .ok (.iload_n 2, 1) := by decide +kernel
theorem d_X12_follow_90 : decode prog_14_method_26_code 90 = .ok (.ireturn, 1) := by decide +kernel
theorem d_X12_plusOf_0 : decode prog_14_method_29_code 0 = .ok (.iload_n 1, 1) := by decide +kernel
theorem d_X12_plusOf_1 : decode prog_14_method_29_code 1 = .ok (.sipush 1000, 3) := by decide +kernel
theorem d_X12_plusOf_4 : decode prog_14_method_29_code 4 = .ok (.if_icmp .ge 25, 3) := by decide +kernel
theorem d_X12_plusOf_7 : decode prog_14_method_29_code 7 = .ok (.aload_n 0, 1) := by decide +kernel
theorem d_X12_plusOf_8 : decode prog_14_method_29_code 8 = .ok (.getfield 77, 3) := by decide +kernel
theorem d_X12_plusOf_11 : decode prog_14_method_29_code 11 = .ok (.iconst 5, 1) := by decide +kernel
theorem d_X12_plusOf_12 : decode prog_14_method_29_code 12 = .ok (.aload_n 0, 1) := by decide +kernel
theorem d_X12_plusOf_13 : decode prog_14_method_29_code 13 = .ok (.getfield 98, 3) := by decide +kernel
theorem d_X12_plusOf_16 : decode prog_14_method_29_code 16 = .ok (.iload_n 1, 1) := by decide +kernel
theorem d_X12_plusOf_17 : decode prog_14_method_29_code 17 = .ok (.iconst 5, 1) := by decide +kernel
theorem d_X12_plusOf_18 : decode prog_14_method_29_code 18 = .ok (.idiv, 1) := by decide +kernel
theorem d_X12_plusOf_19 : decode prog_14_method_29_code 19 = .ok (.iaload, 1) := by decide +kernel
theorem d_X12_plusOf_20 : decode prog_14_method_29_code 20 = .ok (.imul, 1) := by decide +kernel
theorem d_X12_plusOf_21 : decode prog_14_method_29_code 21 = .ok (.iload_n 1, 1) := by decide +kernel
theorem d_X12_plusOf_22 : decode prog_14_method_29_code 22 = .ok (.iconst 5, 1) := by decide +kernel
theorem d_X12_plusOf_23 : decode prog_14_method_29_code 23 = .ok (.irem, 1) := by decide +kernel
theorem d_X12_plusOf_24 : decode prog_14_method_29_code 24 = .ok (.iadd, 1) := by decide +kernel
theorem d_X12_plusOf_25 : decode prog_14_method_29_code 25 = .ok (.baload, 1) := by decide +kernel
theorem d_X12_plusOf_26 : decode prog_14_method_29_code 26 = .ok (.goto 38, 3) := by decide +kernel
theorem d_X12_plusOf_29 : decode prog_14_method_29_code 29 = .ok (.aload_n 0, 1) := by decide +kernel
theorem d_X12_plusOf_30 : decode prog_14_method_29_code 30 = .ok (.getfield 77, 3) := by decide +kernel
theorem d_X12_plusOf_33 : decode prog_14_method_29_code 33 = .ok (.iconst 5, 1) := by decide +kernel
theorem d_X12_plusOf_34 : decode prog_14_method_29_code 34 = .ok (.aload_n 0, 1) := by decide +kernel
theorem d_X12_plusOf_35 : decode prog_14_method_29_code 35 = .ok (.getfield 113, 3) := by decide +kernel
theorem d_X12_plusOf_38 : decode prog_14_method_29_code 38 = .ok (.iload_n 1, 1) := by decide +kernel
theorem d_X12_plusOf_39 : decode prog_14_method_29_code 39 = .ok (.sipush 1200, 3) := by decide +kernel
theorem d_X12_plusOf_42 : decode prog_14_method_29_code 42 = .ok (.isub, 1) := by decide +kernel
theorem d_X12_plusOf_43 : decode prog_14_method_29_code 43 = .ok (.iconst 5, 1) := by decide +kernel
theorem d_X12_plusOf_44 : decode prog_14_method_29_code 44 = .ok (.idiv, 1) := by decide +kernel
theorem d_X12_plusOf_45 : decode prog_14_method_29_code 45 = .ok (.iaload, 1) := by decide +kernel
theorem d_X12_plusOf_46 : decode prog_14_method_29_code 46 = .ok (.imul, 1) := by decide +kernel
theorem d_X12_plusOf_47 : decode prog_14_method_29_code 47 = .ok (.iload_n 1, 1) := by decide +kernel
theorem d_X12_plusOf_48 : decode prog_14_method_29_code 48 = .ok (.sipush 1200, 3) := by decide +kernel
theorem d_X12_plusOf_51 : decode prog_14_method_29_code 51 = .ok (.isub, 1) := by decide +kernel
theorem d_X12_plusOf_52 : decode prog_14_method_29_code 52 = .ok (.iconst 5, 1) := by decide +kernel
theorem d_X12_plusOf_53 : decode prog_14_method_29_code 53 = .ok (.irem, 1) := by decide +kernel
theorem d_X12_plusOf_54 : decode prog_14_method_29_code 54 = .ok (.iadd, 1) := by decide +kernel
theorem d_X12_plusOf_55 : decode prog_14_method_29_code 55 = .ok (.baload, 1) := by decide +kernel
theorem d_X12_plusOf_56 : decode prog_14_method_29_code 56 = .ok (.ifCond .ne 7, 3) := by decide +kernel
theorem d_X12_plusOf_59 : decode prog_14_method_29_code 59 = .ok (.iconst 1, 1) := by decide +kernel
theorem d_X12_plusOf_60 : decode prog_14_method_29_code 60 = .ok (.goto 4, 3) := by decide +kernel
theorem d_X12_plusOf_63 : decode prog_14_method_29_code 63 = .ok (.iconst 0, 1) := by decide +kernel
theorem d_X12_plusOf_64 : decode prog_14_method_29_code 64 = .ok (.ireturn, 1) := by decide +kernel
theorem d_X12_sortOf_0 : decode prog_14_method_28_code 0 = .ok (.iload_n 1, 1) := by decide +kernel
theorem d_X12_sortOf_1 : decode prog_14_method_28_code 1 = .ok (.sipush 1000, 3) := by decide +kernel
theorem d_X12_sortOf_4 : decode prog_14_method_28_code 4 = .ok (.if_icmp .ge 25, 3) := by decide +kernel
theorem d_X12_sortOf_7 : decode prog_14_method_28_code 7 = .ok (.aload_n 0, 1) := by decide +kernel
theorem d_X12_sortOf_8 : decode prog_14_method_28_code 8 = .ok (.getfield 74, 3) := by decide +kernel
theorem d_X12_sortOf_11 : decode prog_14_method_28_code 11 = .ok (.iconst 5, 1) := by decide +kernel
theorem d_X12_sortOf_12 : decode prog_14_method_28_code 12 = .ok (.aload_n 0, 1) := by decide +kernel
theorem d_X12_sortOf_13 : decode prog_14_method_28_code 13 = .ok (.getfield 98, 3) := by decide +kernel
theorem d_X12_sortOf_16 : decode prog_14_method_28_code 16 = .ok (.iload_n 1, 1) := by decide +kernel
theorem d_X12_sortOf_17 : decode prog_14_method_28_code 17 = .ok (.iconst 5, 1) := by decide +kernel
theorem d_X12_sortOf_18 : decode prog_14_method_28_code 18 = .ok (.idiv, 1) := by decide +kernel
theorem d_X12_sortOf_19 : decode prog_14_method_28_code 19 = .ok (.iaload, 1) := by decide +kernel
theorem d_X12_sortOf_20 : decode prog_14_method_28_code 20 = .ok (.imul, 1) := by decide +kernel
theorem d_X12_sortOf_21 : decode prog_14_method_28_code 21 = .ok (.iload_n 1, 1) := by decide +kernel
theorem d_X12_sortOf_22 : decode prog_14_method_28_code 22 = .ok (.iconst 5, 1) := by decide +kernel
theorem d_X12_sortOf_23 : decode prog_14_method_28_code 23 = .ok (.irem, 1) := by decide +kernel
theorem d_X12_sortOf_24 : decode prog_14_method_28_code 24 = .ok (.iadd, 1) := by decide +kernel
theorem d_X12_sortOf_25 : decode prog_14_method_28_code 25 = .ok (.iaload, 1) := by decide +kernel
theorem d_X12_sortOf_26 : decode prog_14_method_28_code 26 = .ok (.goto 30, 3) := by decide +kernel
theorem d_X12_sortOf_29 : decode prog_14_method_28_code 29 = .ok (.aload_n 0, 1) := by decide +kernel
theorem d_X12_sortOf_30 : decode prog_14_method_28_code 30 = .ok (.getfield 74, 3) := by decide +kernel
theorem d_X12_sortOf_33 : decode prog_14_method_28_code 33 = .ok (.iconst 5, 1) := by decide +kernel
theorem d_X12_sortOf_34 : decode prog_14_method_28_code 34 = .ok (.aload_n 0, 1) := by decide +kernel
theorem d_X12_sortOf_35 : decode prog_14_method_28_code 35 = .ok (.getfield 113, 3) := by decide +kernel
theorem d_X12_sortOf_38 : decode prog_14_method_28_code 38 = .ok (.iload_n 1, 1) := by decide +kernel
theorem d_X12_sortOf_39 : decode prog_14_method_28_code 39 = .ok (.sipush 1200, 3) := by decide +kernel
theorem d_X12_sortOf_42 : decode prog_14_method_28_code 42 = .ok (.isub, 1) := by decide +kernel
theorem d_X12_sortOf_43 : decode prog_14_method_28_code 43 = .ok (.iconst 5, 1) := by decide +kernel
theorem d_X12_sortOf_44 : decode prog_14_method_28_code 44 = .ok (.idiv, 1) := by decide +kernel
theorem d_X12_sortOf_45 : decode prog_14_method_28_code 45 = .ok (.iaload, 1) := by decide +kernel
theorem d_X12_sortOf_46 : decode prog_14_method_28_code 46 = .ok (.imul, 1) := by decide +kernel
theorem d_X12_sortOf_47 : decode prog_14_method_28_code 47 = .ok (.iload_n 1, 1) := by decide +kernel
theorem d_X12_sortOf_48 : decode prog_14_method_28_code 48 = .ok (.sipush 1200, 3) := by decide +kernel
theorem d_X12_sortOf_51 : decode prog_14_method_28_code 51 = .ok (.isub, 1) := by decide +kernel
theorem d_X12_sortOf_52 : decode prog_14_method_28_code 52 = .ok (.iconst 5, 1) := by decide +kernel
theorem d_X12_sortOf_53 : decode prog_14_method_28_code 53 = .ok (.irem, 1) := by decide +kernel
theorem d_X12_sortOf_54 : decode prog_14_method_28_code 54 = .ok (.iadd, 1) := by decide +kernel
theorem d_X12_sortOf_55 : decode prog_14_method_28_code 55 = .ok (.iaload, 1) := by decide +kernel
theorem d_X12_sortOf_56 : decode prog_14_method_28_code 56 = .ok (.ireturn, 1) := by decide +kernel
theorem d_X12_fits_0 : decode prog_14_method_30_code 0 = .ok (.aload_n 0, 1) := by decide +kernel
theorem d_X12_fits_1 : decode prog_14_method_30_code 1 = .ok (.aload_n 0, 1) := by decide +kernel
theorem d_X12_fits_2 : decode prog_14_method_30_code 2 = .ok (.getfield 104, 3) := by decide +kernel
theorem d_X12_fits_5 : decode prog_14_method_30_code 5 = .ok (.iload_n 1, 1) := by decide +kernel
theorem d_X12_fits_6 : decode prog_14_method_30_code 6 = .ok (.iaload, 1) := by decide +kernel
theorem d_X12_fits_7 : decode prog_14_method_30_code 7 = .ok (.invokevirtual 284, 3) := by decide +kernel
theorem d_X12_fits_10 : decode prog_14_method_30_code 10 = .ok (.istore_n 2, 1) := by decide +kernel
theorem d_X12_fits_11 : decode prog_14_method_30_code 11 = .ok (.iload_n 2, 1) := by decide +kernel
theorem d_X12_fits_12 : decode prog_14_method_30_code 12 = .ok (.ifCond .lt 29, 3) := by decide +kernel
theorem d_X12_fits_15 : decode prog_14_method_30_code 15 = .ok (.aload_n 0, 1) := by decide +kernel
theorem d_X12_fits_16 : decode prog_14_method_30_code 16 = .ok (.iload_n 2, 1) := by decide +kernel
theorem d_X12_fits_17 : decode prog_14_method_30_code 17 = .ok (.invokevirtual 287, 3) := by decide +kernel
theorem d_X12_fits_20 : decode prog_14_method_30_code 20 = .ok (.aload_n 0, 1) := by decide +kernel
theorem d_X12_fits_21 : decode prog_14_method_30_code 21 = .ok (.iload_n 1, 1) := by decide +kernel
theorem d_X12_fits_22 : decode prog_14_method_30_code 22 = .ok (.invokevirtual 287, 3) := by decide +kernel
theorem d_X12_fits_25 : decode prog_14_method_30_code 25 = .ok (.if_icmp .ne 20, 3) := by decide +kernel
theorem d_X12_fits_28 : decode prog_14_method_30_code 28 = .ok (.aload_n 0, 1) := by decide +kernel
theorem d_X12_fits_29 : decode prog_14_method_30_code 29 = .ok (.iload_n 2, 1) := by decide +kernel
theorem d_X12_fits_30 : decode prog_14_method_30_code 30 = .ok (.invokevirtual 290, 3) := by decide +kernel
theorem d_X12_fits_33 : decode prog_14_method_30_code 33 = .ok (.aload_n 0, 1) := by decide +kernel
theorem d_X12_fits_34 : decode prog_14_method_30_code 34 = .ok (.iload_n 1, 1) := by decide +kernel
theorem d_X12_fits_35 : decode prog_14_method_30_code 35 = .ok (.invokevirtual 290, 3) := by decide +kernel
theorem d_X12_fits_38 : decode prog_14_method_30_code 38 = .ok (.if_icmp .eq 7, 3) := by decide +kernel
theorem d_X12_fits_41 : decode prog_14_method_30_code 41 = .ok (.iconst 1, 1) := by decide +kernel
theorem d_X12_fits_42 : decode prog_14_method_30_code 42 = .ok (.goto 4, 3) := by decide +kernel
theorem d_X12_fits_45 : decode prog_14_method_30_code 45 = .ok (.iconst 0, 1) := by decide +kernel
theorem d_X12_fits_46 : decode prog_14_method_30_code 46 = .ok (.ireturn, 1) := by decide +kernel
theorem d_X12_fitAll_0 : decode prog_14_method_31_code 0 = .ok (.iconst 0, 1) := by decide +kernel
theorem d_X12_fitAll_1 : decode prog_14_method_31_code 1 = .ok (.istore_n 1, 1) := by decide +kernel
theorem d_X12_fitAll_2 : decode prog_14_method_31_code 2 = .ok (.iload_n 1, 1) := by decide +kernel
theorem d_X12_fitAll_3 : decode prog_14_method_31_code 3 = .ok (.sipush 1211, 3) := by decide +kernel
theorem d_X12_fitAll_6 : decode prog_14_method_31_code 6 = .ok (.if_icmp .ge 16, 3) := by decide +kernel
theorem d_X12_fitAll_9 : decode prog_14_method_31_code 9 = .ok (.aload_n 0, 1) := by decide +kernel
theorem d_X12_fitAll_10 : decode prog_14_method_31_code 10 = .ok (.getfield 122, 3) := by decide +kernel
theorem d_X12_fitAll_13 : decode prog_14_method_31_code 13 = .ok (.iload_n 1, 1) := by decide +kernel
theorem d_X12_fitAll_14 : decode prog_14_method_31_code 14 = .ok (.iconst 0, 1) := by decide +kernel
theorem d_X12_fitAll_15 : decode prog_14_method_31_code 15 = .ok (.bastore, 1) := by decide +kernel
theorem d_X12_fitAll_16 : decode prog_14_method_31_code 16 = .ok (.iinc 1 1, 3) := by decide +kernel
theorem d_X12_fitAll_19 : decode prog_14_method_31_code 19 = .ok (.goto (-17), 3) := by decide +kernel
theorem d_X12_fitAll_22 : decode prog_14_method_31_code 22 = .ok (.iconst 1, 1) := by decide +kernel
theorem d_X12_fitAll_23 : decode prog_14_method_31_code 23 = .ok (.istore_n 1, 1) := by decide +kernel
theorem d_X12_fitAll_24 : decode prog_14_method_31_code 24 = .ok (.iconst 0, 1) := by decide +kernel
theorem d_X12_fitAll_25 : decode prog_14_method_31_code 25 = .ok (.istore_n 2, 1) := by decide +kernel
theorem d_X12_fitAll_26 : decode prog_14_method_31_code 26 = .ok (.iload_n 2, 1) := by decide +kernel
theorem d_X12_fitAll_27 : decode prog_14_method_31_code 27 = .ok (.aload_n 0, 1) := by decide +kernel
theorem d_X12_fitAll_28 : decode prog_14_method_31_code 28 = .ok (.getfield 261, 3) := by decide +kernel
theorem d_X12_fitAll_31 : decode prog_14_method_31_code 31 = .ok (.if_icmp .ge 54, 3) := by decide +kernel
theorem d_X12_fitAll_34 : decode prog_14_method_31_code 34 = .ok (.iconst 0, 1) := by decide +kernel
theorem d_X12_fitAll_35 : decode prog_14_method_31_code 35 = .ok (.istore_n 3, 1) := by decide +kernel
theorem d_X12_fitAll_36 : decode prog_14_method_31_code 36 = .ok (.iload_n 3, 1) := by decide +kernel
theorem d_X12_fitAll_37 : decode prog_14_method_31_code 37 = .ok (.aload_n 0, 1) := by decide +kernel
theorem d_X12_fitAll_38 : decode prog_14_method_31_code 38 = .ok (.getfield 71, 3) := by decide +kernel
theorem d_X12_fitAll_41 : decode prog_14_method_31_code 41 = .ok (.aload_n 0, 1) := by decide +kernel
theorem d_X12_fitAll_42 : decode prog_14_method_31_code 42 = .ok (.getfield 98, 3) := by decide +kernel
theorem d_X12_fitAll_45 : decode prog_14_method_31_code 45 = .ok (.iload_n 2, 1) := by decide +kernel
theorem d_X12_fitAll_46 : decode prog_14_method_31_code 46 = .ok (.iaload, 1) := by decide +kernel
theorem d_X12_fitAll_47 : decode prog_14_method_31_code 47 = .ok (.iaload, 1) := by decide +kernel
theorem d_X12_fitAll_48 : decode prog_14_method_31_code 48 = .ok (.if_icmp .ge 31, 3) := by decide +kernel
theorem d_X12_fitAll_51 : decode prog_14_method_31_code 51 = .ok (.aload_n 0, 1) := by decide +kernel
theorem d_X12_fitAll_52 : decode prog_14_method_31_code 52 = .ok (.iconst 5, 1) := by decide +kernel
theorem d_X12_fitAll_53 : decode prog_14_method_31_code 53 = .ok (.iload_n 2, 1) := by decide +kernel
theorem d_X12_fitAll_54 : decode prog_14_method_31_code 54 = .ok (.imul, 1) := by decide +kernel
theorem d_X12_fitAll_55 : decode prog_14_method_31_code 55 = .ok (.iload_n 3, 1) := by decide +kernel
theorem d_X12_fitAll_56 : decode prog_14_method_31_code 56 = .ok (.iadd, 1) := by decide +kernel
theorem d_X12_fitAll_57 : decode prog_14_method_31_code 57 = .ok (.invokevirtual 293, 3) := by decide +kernel
theorem d_X12_fitAll_60 : decode prog_14_method_31_code 60 = .ok (.ifCond .eq 11, 3) := by decide +kernel
theorem d_X12_fitAll_63 : decode prog_14_method_31_code 63 = .ok (.iload_n 1, 1) := by decide +kernel
theorem d_X12_fitAll_64 : decode prog_14_method_31_code 64 = .ok (.ifCond .eq 7, 3) := by decide +kernel
theorem d_X12_fitAll_67 : decode prog_14_method_31_code 67 = .ok (.iconst 1, 1) := by decide +kernel
theorem d_X12_fitAll_68 : decode prog_14_method_31_code 68 = .ok (.goto 4, 3) := by decide +kernel
theorem d_X12_fitAll_71 : decode prog_14_method_31_code 71 = .ok (.iconst 0, 1) := by decide +kernel
theorem d_X12_fitAll_72 : decode prog_14_method_31_code 72 = .ok (.istore_n 1, 1) := by decide +kernel
theorem d_X12_fitAll_73 : decode prog_14_method_31_code 73 = .ok (.iinc 3 1, 3) := by decide +kernel
theorem d_X12_fitAll_76 : decode prog_14_method_31_code 76 = .ok (.goto (-40), 3) := by decide +kernel
theorem d_X12_fitAll_79 : decode prog_14_method_31_code 79 = .ok (.iinc 2 1, 3) := by decide +kernel
theorem d_X12_fitAll_82 : decode prog_14_method_31_code 82 = .ok (.goto (-56), 3) := by decide +kernel
theorem d_X12_fitAll_85 : decode prog_14_method_31_code 85 = .ok (.iload_n 1, 1) := by decide +kernel
theorem d_X12_fitAll_86 : decode prog_14_method_31_code 86 = .ok (.ireturn, 1) := by decide +kernel
theorem d_X12_fitSides_0 : decode prog_14_method_32_code 0 = .ok (.iconst 1, 1) := by decide +kernel
theorem d_X12_fitSides_1 : decode prog_14_method_32_code 1 = .ok (.istore_n 1, 1) := by decide +kernel
theorem d_X12_fitSides_2 : decode prog_14_method_32_code 2 = .ok (.iconst 0, 1) := by decide +kernel
theorem d_X12_fitSides_3 : decode prog_14_method_32_code 3 = .ok (.istore_n 2, 1) := by decide +kernel
theorem d_X12_fitSides_4 : decode prog_14_method_32_code 4 = .ok (.iload_n 2, 1) := by decide +kernel
theorem d_X12_fitSides_5 : decode prog_14_method_32_code 5 = .ok (.iconst 2, 1) := by decide +kernel
theorem d_X12_fitSides_6 : decode prog_14_method_32_code 6 = .ok (.if_icmp .ge 58, 3) := by decide +kernel
theorem d_X12_fitSides_9 : decode prog_14_method_32_code 9 = .ok (.iconst 1, 1) := by decide +kernel
theorem d_X12_fitSides_10 : decode prog_14_method_32_code 10 = .ok (.istore_n 3, 1) := by decide +kernel
theorem d_X12_fitSides_11 : decode prog_14_method_32_code 11 = .ok (.iload_n 3, 1) := by decide +kernel
theorem d_X12_fitSides_12 : decode prog_14_method_32_code 12 = .ok (.aload_n 0, 1) := by decide +kernel
theorem d_X12_fitSides_13 : decode prog_14_method_32_code 13 = .ok (.getfield 71, 3) := by decide +kernel
theorem d_X12_fitSides_16 : decode prog_14_method_32_code 16 = .ok (.aload_n 0, 1) := by decide +kernel
theorem d_X12_fitSides_17 : decode prog_14_method_32_code 17 = .ok (.getfield 113, 3) := by decide +kernel
theorem d_X12_fitSides_20 : decode prog_14_method_32_code 20 = .ok (.iload_n 2, 1) := by decide +kernel
theorem d_X12_fitSides_21 : decode prog_14_method_32_code 21 = .ok (.iaload, 1) := by decide +kernel
theorem d_X12_fitSides_22 : decode prog_14_method_32_code 22 = .ok (.iaload, 1) := by decide +kernel
theorem d_X12_fitSides_23 : decode prog_14_method_32_code 23 = .ok (.if_icmp .ge 35, 3) := by decide +kernel
theorem d_X12_fitSides_26 : decode prog_14_method_32_code 26 = .ok (.aload_n 0, 1) := by decide +kernel
theorem d_X12_fitSides_27 : decode prog_14_method_32_code 27 = .ok (.sipush 1200, 3) := by decide +kernel
theorem d_X12_fitSides_30 : decode prog_14_method_32_code 30 = .ok (.iconst 5, 1) := by decide +kernel
theorem d_X12_fitSides_31 : decode prog_14_method_32_code 31 = .ok (.iload_n 2, 1) := by decide +kernel
theorem d_X12_fitSides_32 : decode prog_14_method_32_code 32 = .ok (.imul, 1) := by decide +kernel
theorem d_X12_fitSides_33 : decode prog_14_method_32_code 33 = .ok (.iadd, 1) := by decide +kernel
theorem d_X12_fitSides_34 : decode prog_14_method_32_code 34 = .ok (.iload_n 3, 1) := by decide +kernel
theorem d_X12_fitSides_35 : decode prog_14_method_32_code 35 = .ok (.iadd, 1) := by decide +kernel
theorem d_X12_fitSides_36 : decode prog_14_method_32_code 36 = .ok (.invokevirtual 293, 3) := by decide +kernel
theorem d_X12_fitSides_39 : decode prog_14_method_32_code 39 = .ok (.ifCond .eq 11, 3) := by decide +kernel
theorem d_X12_fitSides_42 : decode prog_14_method_32_code 42 = .ok (.iload_n 1, 1) := by decide +kernel
theorem d_X12_fitSides_43 : decode prog_14_method_32_code 43 = .ok (.ifCond .eq 7, 3) := by decide +kernel
theorem d_X12_fitSides_46 : decode prog_14_method_32_code 46 = .ok (.iconst 1, 1) := by decide +kernel
theorem d_X12_fitSides_47 : decode prog_14_method_32_code 47 = .ok (.goto 4, 3) := by decide +kernel
theorem d_X12_fitSides_50 : decode prog_14_method_32_code 50 = .ok (.iconst 0, 1) := by decide +kernel
theorem d_X12_fitSides_51 : decode prog_14_method_32_code 51 = .ok (.istore_n 1, 1) := by decide +kernel
theorem d_X12_fitSides_52 : decode prog_14_method_32_code 52 = .ok (.iinc 3 1, 3) := by decide +kernel
theorem d_X12_fitSides_55 : decode prog_14_method_32_code 55 = .ok (.goto (-44), 3) := by decide +kernel
theorem d_X12_fitSides_58 : decode prog_14_method_32_code 58 = .ok (.iinc 2 1, 3) := by decide +kernel
theorem d_X12_fitSides_61 : decode prog_14_method_32_code 61 = .ok (.goto (-57), 3) := by decide +kernel
theorem d_X12_fitSides_64 : decode prog_14_method_32_code 64 = .ok (.iload_n 1, 1) := by decide +kernel
theorem d_X12_fitSides_65 : decode prog_14_method_32_code 65 = .ok (.ireturn, 1) := by decide +kernel
theorem d_X12_isFigure_0 : decode prog_14_method_10_code 0 = .ok (.iload_n 0, 1) := by decide +kernel
theorem d_X12_isFigure_1 : decode prog_14_method_10_code 1 = .ok (.bipush 48, 2) := by decide +kernel
theorem d_X12_isFigure_3 : decode prog_14_method_10_code 3 = .ok (.if_icmp .lt 13, 3) := by decide +kernel
theorem d_X12_isFigure_6 : decode prog_14_method_10_code 6 = .ok (.iload_n 0, 1) := by decide +kernel
theorem d_X12_isFigure_7 : decode prog_14_method_10_code 7 = .ok (.bipush 57, 2) := by decide +kernel
theorem d_X12_isFigure_9 : decode prog_14_method_10_code 9 = .ok (.if_icmp .gt 7, 3) := by decide +kernel
theorem d_X12_isFigure_12 : decode prog_14_method_10_code 12 = .ok (.iconst 1, 1) := by decide +kernel
theorem d_X12_isFigure_13 : decode prog_14_method_10_code 13 = .ok (.goto 4, 3) := by decide +kernel
theorem d_X12_isFigure_16 : decode prog_14_method_10_code 16 = .ok (.iconst 0, 1) := by decide +kernel
theorem d_X12_isFigure_17 : decode prog_14_method_10_code 17 = .ok (.ireturn, 1) := by decide +kernel
theorem d_X12_isGreat_0 : decode prog_14_method_9_code 0 = .ok (.iload_n 0, 1) := by decide +kernel
theorem d_X12_isGreat_1 : decode prog_14_method_9_code 1 = .ok (.bipush 65, 2) := by decide +kernel
theorem d_X12_isGreat_3 : decode prog_14_method_9_code 3 = .ok (.if_icmp .lt 13, 3) := by decide +kernel
theorem d_X12_isGreat_6 : decode prog_14_method_9_code 6 = .ok (.iload_n 0, 1) := by decide +kernel
theorem d_X12_isGreat_7 : decode prog_14_method_9_code 7 = .ok (.bipush 90, 2) := by decide +kernel
theorem d_X12_isGreat_9 : decode prog_14_method_9_code 9 = .ok (.if_icmp .gt 7, 3) := by decide +kernel
theorem d_X12_isGreat_12 : decode prog_14_method_9_code 12 = .ok (.iconst 1, 1) := by decide +kernel
theorem d_X12_isGreat_13 : decode prog_14_method_9_code 13 = .ok (.goto 4, 3) := by decide +kernel
theorem d_X12_isGreat_16 : decode prog_14_method_9_code 16 = .ok (.iconst 0, 1) := by decide +kernel
theorem d_X12_isGreat_17 : decode prog_14_method_9_code 17 = .ok (.ireturn, 1) := by decide +kernel
theorem d_X12_isSign_0 : decode prog_14_method_13_code 0 = .ok (.aload_n 0, 1) := by decide +kernel
theorem d_X12_isSign_1 : decode prog_14_method_13_code 1 = .ok (.getfield 205, 3) := by decide +kernel
theorem d_X12_isSign_4 : decode prog_14_method_13_code 4 = .ok (.iconst 3, 1) := by decide +kernel
theorem d_X12_isSign_5 : decode prog_14_method_13_code 5 = .ok (.if_icmp .ne 15, 3) := by decide +kernel
theorem d_X12_isSign_8 : decode prog_14_method_13_code 8 = .ok (.aload_n 0, 1) := by decide +kernel
theorem d_X12_isSign_9 : decode prog_14_method_13_code 9 = .ok (.getfield 222, 3) := by decide +kernel
theorem d_X12_isSign_12 : decode prog_14_method_13_code 12 = .ok (.iload_n 1, 1) := by decide +kernel
theorem d_X12_isSign_13 : decode prog_14_method_13_code 13 = .ok (.if_icmp .ne 7, 3) := by decide +kernel
theorem d_X12_isSign_16 : decode prog_14_method_13_code 16 = .ok (.iconst 1, 1) := by decide +kernel
theorem d_X12_isSign_17 : decode prog_14_method_13_code 17 = .ok (.goto 4, 3) := by decide +kernel
theorem d_X12_isSign_20 : decode prog_14_method_13_code 20 = .ok (.iconst 0, 1) := by decide +kernel
theorem d_X12_isSign_21 : decode prog_14_method_13_code 21 = .ok (.ireturn, 1) := by decide +kernel
theorem d_X12_isSmall_0 : decode prog_14_method_8_code 0 = .ok (.iload_n 0, 1) := by decide +kernel
theorem d_X12_isSmall_1 : decode prog_14_method_8_code 1 = .ok (.bipush 97, 2) := by decide +kernel
theorem d_X12_isSmall_3 : decode prog_14_method_8_code 3 = .ok (.if_icmp .lt 13, 3) := by decide +kernel
theorem d_X12_isSmall_6 : decode prog_14_method_8_code 6 = .ok (.iload_n 0, 1) := by decide +kernel
theorem d_X12_isSmall_7 : decode prog_14_method_8_code 7 = .ok (.bipush 122, 2) := by decide +kernel
theorem d_X12_isSmall_9 : decode prog_14_method_8_code 9 = .ok (.if_icmp .gt 7, 3) := by decide +kernel
theorem d_X12_isSmall_12 : decode prog_14_method_8_code 12 = .ok (.iconst 1, 1) := by decide +kernel
theorem d_X12_isSmall_13 : decode prog_14_method_8_code 13 = .ok (.goto 4, 3) := by decide +kernel
theorem d_X12_isSmall_16 : decode prog_14_method_8_code 16 = .ok (.iconst 0, 1) := by decide +kernel
theorem d_X12_isSmall_17 : decode prog_14_method_8_code 17 = .ok (.ireturn, 1) := by decide +kernel
theorem d_X12_join_0 : decode prog_14_method_21_code 0 = .ok (.aload_n 0, 1) := by decide +kernel
theorem d_X12_join_1 : decode prog_14_method_21_code 1 = .ok (.getfield 104, 3) := by decide +kernel
theorem d_X12_join_4 : decode prog_14_method_21_code 4 = .ok (.iload_n 1, 1) := by decide +kernel
theorem d_X12_join_5 : decode prog_14_method_21_code 5 = .ok (.iload_n 2, 1) := by decide +kernel
theorem d_X12_join_6 : decode prog_14_method_21_code 6 = .ok (.iastore, 1) := by decide +kernel
theorem d_X12_join_7 : decode prog_14_method_21_code 7 = .ok (.aload_n 0, 1) := by decide +kernel
theorem d_X12_join_8 : decode prog_14_method_21_code 8 = .ok (.getfield 104, 3) := by decide +kernel
theorem d_X12_join_11 : decode prog_14_method_21_code 11 = .ok (.iload_n 2, 1) := by decide +kernel
theorem d_X12_join_12 : decode prog_14_method_21_code 12 = .ok (.iload_n 1, 1) := by decide +kernel
theorem d_X12_join_13 : decode prog_14_method_21_code 13 = .ok (.iastore, 1) := by decide +kernel
theorem d_X12_join_14 : decode prog_14_method_21_code 14 = .ok (.return_, 1) := by decide +kernel
theorem d_X12_keep_0 : decode prog_14_method_69_code 0 = .ok (.iload_n 1, 1) := by decide +kernel
theorem d_X12_keep_1 : decode prog_14_method_69_code 1 = .ok (.invokestatic 447, 3) := by decide +kernel
theorem d_X12_keep_4 : decode prog_14_method_69_code 4 = .ok (.ifCond .ne 7, 3) := by decide +kernel
theorem d_X12_keep_7 : decode prog_14_method_69_code 7 = .ok (.sipush (-1001), 3) := by decide +kernel
theorem d_X12_keep_10 : decode prog_14_method_69_code 10 = .ok (.ireturn, 1) := by decide +kernel
theorem d_X12_keep_11 : decode prog_14_method_69_code 11 = .ok (.iconst 0, 1) := by decide +kernel
theorem d_X12_keep_12 : decode prog_14_method_69_code 12 = .ok (.istore_n 2, 1) := by decide +kernel
theorem d_X12_keep_13 : decode prog_14_method_69_code 13 = .ok (.iload_n 2, 1) := by decide +kernel
theorem d_X12_keep_14 : decode prog_14_method_69_code 14 = .ok (.sipush 400, 3) := by decide +kernel
theorem d_X12_keep_17 : decode prog_14_method_69_code 17 = .ok (.if_icmp .ge 27, 3) := by decide +kernel
theorem d_X12_keep_20 : decode prog_14_method_69_code 20 = .ok (.aload_n 0, 1) := by decide +kernel
theorem d_X12_keep_21 : decode prog_14_method_69_code 21 = .ok (.getfield 149, 3) := by decide +kernel
theorem d_X12_keep_24 : decode prog_14_method_69_code 24 = .ok (.sipush 400, 3) := by decide +kernel
theorem d_X12_keep_27 : decode prog_14_method_69_code 27 = .ok (.iload_n 1, 1) := by decide +kernel
theorem d_X12_keep_28 : decode prog_14_method_69_code 28 = .ok (.imul, 1) := by decide +kernel
theorem d_X12_keep_29 : decode prog_14_method_69_code 29 = .ok (.iload_n 2, 1) := by decide +kernel
theorem d_X12_keep_30 : decode prog_14_method_69_code 30 = .ok (.iadd, 1) := by decide +kernel
theorem d_X12_keep_31 : decode prog_14_method_69_code 31 = .ok (.aload_n 0, 1) := by decide +kernel
theorem d_X12_keep_32 : decode prog_14_method_69_code 32 = .ok (.getfield 49, 3) := by decide +kernel
theorem d_X12_keep_35 : decode prog_14_method_69_code 35 = .ok (.iload_n 2, 1) := by decide +kernel
theorem d_X12_keep_36 : decode prog_14_method_69_code 36 = .ok (.iaload, 1) := by decide +kernel
theorem d_X12_keep_37 : decode prog_14_method_69_code 37 = .ok (.iastore, 1) := by decide +kernel
theorem d_X12_keep_38 : decode prog_14_method_69_code 38 = .ok (.iinc 2 1, 3) := by decide +kernel
theorem d_X12_keep_41 : decode prog_14_method_69_code 41 = .ok (.goto (-28), 3) := by decide +kernel
theorem d_X12_keep_44 : decode prog_14_method_69_code 44 = .ok (.iconst 0, 1) := by decide +kernel
theorem d_X12_keep_45 : decode prog_14_method_69_code 45 = .ok (.istore_n 2, 1) := by decide +kernel
theorem d_X12_keep_46 : decode prog_14_method_69_code 46 = .ok (.iload_n 2, 1) := by decide +kernel
theorem d_X12_keep_47 : decode prog_14_method_69_code 47 = .ok (.sipush 2000, 3) := by decide +kernel
theorem d_X12_keep_50 : decode prog_14_method_69_code 50 = .ok (.if_icmp .ge 27, 3) := by decide +kernel
theorem d_X12_keep_53 : decode prog_14_method_69_code 53 = .ok (.aload_n 0, 1) := by decide +kernel
theorem d_X12_keep_54 : decode prog_14_method_69_code 54 = .ok (.getfield 152, 3) := by decide +kernel
theorem d_X12_keep_57 : decode prog_14_method_69_code 57 = .ok (.sipush 2000, 3) := by decide +kernel
theorem d_X12_keep_60 : decode prog_14_method_69_code 60 = .ok (.iload_n 1, 1) := by decide +kernel
theorem d_X12_keep_61 : decode prog_14_method_69_code 61 = .ok (.imul, 1) := by decide +kernel
theorem d_X12_keep_62 : decode prog_14_method_69_code 62 = .ok (.iload_n 2, 1) := by decide +kernel
theorem d_X12_keep_63 : decode prog_14_method_69_code 63 = .ok (.iadd, 1) := by decide +kernel
theorem d_X12_keep_64 : decode prog_14_method_69_code 64 = .ok (.aload_n 0, 1) := by decide +kernel
theorem d_X12_keep_65 : decode prog_14_method_69_code 65 = .ok (.getfield 52, 3) := by decide +kernel
theorem d_X12_keep_68 : decode prog_14_method_69_code 68 = .ok (.iload_n 2, 1) := by decide +kernel
