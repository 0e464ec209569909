theorem d_X11_print_41 : decode prog_1_method_21_code 41 = .ok (.iload_n 1, 1) := by decide +kernel
theorem d_X11_print_42 : decode prog_1_method_21_code 42 = .ok (.invokestatic 187, 3) := by decide +kernel
theorem d_X11_print_45 : decode prog_1_method_21_code 45 = .ok (.invokevirtual 181, 3) := by decide +kernel
theorem d_X11_print_48 : decode prog_1_method_21_code 48 = .ok (.iconst 0, 1) := by decide +kernel
theorem d_X11_print_49 : decode prog_1_method_21_code 49 = .ok (.invokevirtual 228, 3) := by decide +kernel
theorem d_X11_print_52 : decode prog_1_method_21_code 52 = .ok (.aload_n 0, 1) := by decide +kernel
theorem d_X11_print_53 : decode prog_1_method_21_code 53 = .ok (.getfield 54, 3) := by decide +kernel
theorem d_X11_print_56 : decode prog_1_method_21_code 56 = .ok (.getfield 149, 3) := by decide +kernel
theorem d_X11_print_59 : decode prog_1_method_21_code 59 = .ok (.ireturn, 1) := by decide +kernel
theorem d_X11_reached_0 : decode prog_1_method_20_code 0 = .ok (.aload_n 0, 1) := by decide +kernel
theorem d_X11_reached_1 : decode prog_1_method_20_code 1 = .ok (.getfield 44, 3) := by decide +kernel
theorem d_X11_reached_4 : decode prog_1_method_20_code 4 = .ok (.aload_n 0, 1) := by decide +kernel
theorem d_X11_reached_5 : decode prog_1_method_20_code 5 = .ok (.getfield 61, 3) := by decide +kernel
theorem d_X11_reached_8 : decode prog_1_method_20_code 8 = .ok (.getfield 92, 3) := by decide +kernel
theorem d_X11_reached_11 : decode prog_1_method_20_code 11 = .ok (.aload_n 0, 1) := by decide +kernel
theorem d_X11_reached_12 : decode prog_1_method_20_code 12 = .ok (.getfield 61, 3) := by decide +kernel
theorem d_X11_reached_15 : decode prog_1_method_20_code 15 = .ok (.getfield 108, 3) := by decide +kernel
theorem d_X11_reached_18 : decode prog_1_method_20_code 18 = .ok (.invokevirtual 219, 3) := by decide +kernel
theorem d_X11_reached_21 : decode prog_1_method_20_code 21 = .ok (.aload_n 0, 1) := by decide +kernel
theorem d_X11_reached_22 : decode prog_1_method_20_code 22 = .ok (.getfield 44, 3) := by decide +kernel
theorem d_X11_reached_25 : decode prog_1_method_20_code 25 = .ok (.getfield 227, 3) := by decide +kernel
theorem d_X11_reached_28 : decode prog_1_method_20_code 28 = .ok (.ireturn, 1) := by decide +kernel
theorem d_X2_clear_0 : decode prog_4_method_2_code 0 = .ok (.aload_n 0, 1) := by decide +kernel
theorem d_X2_clear_1 : decode prog_4_method_2_code 1 = .ok (.iconst 0, 1) := by decide +kernel
theorem d_X2_clear_2 : decode prog_4_method_2_code 2 = .ok (.putfield 15, 3) := by decide +kernel
theorem d_X2_clear_5 : decode prog_4_method_2_code 5 = .ok (.aload_n 0, 1) := by decide +kernel
theorem d_X2_clear_6 : decode prog_4_method_2_code 6 = .ok (.iload_n 1, 1) := by decide +kernel
theorem d_X2_clear_7 : decode prog_4_method_2_code 7 = .ok (.putfield 19, 3) := by decide +kernel
theorem d_X2_clear_10 : decode prog_4_method_2_code 10 = .ok (.aload_n 0, 1) := by decide +kernel
theorem d_X2_clear_11 : decode prog_4_method_2_code 11 = .ok (.iconst 0, 1) := by decide +kernel
theorem d_X2_clear_12 : decode prog_4_method_2_code 12 = .ok (.putfield 22, 3) := by decide +kernel
theorem d_X2_clear_15 : decode prog_4_method_2_code 15 = .ok (.return_, 1) := by decide +kernel
theorem d_X6_isWord_0 : decode prog_8_method_3_code 0 = .ok (.aload_n 0, 1) := by decide +kernel
theorem d_X6_isWord_1 : decode prog_8_method_3_code 1 = .ok (.getfield 25, 3) := by decide +kernel
theorem d_X6_isWord_4 : decode prog_8_method_3_code 4 = .ok (.getfield 53, 3) := by decide +kernel
theorem d_X6_isWord_7 : decode prog_8_method_3_code 7 = .ok (.iconst 2, 1) := by decide +kernel
theorem d_X6_isWord_8 : decode prog_8_method_3_code 8 = .ok (.if_icmp .ne 19, 3) := by decide +kernel
theorem d_X6_isWord_11 : decode prog_8_method_3_code 11 = .ok (.aload_n 0, 1) := by decide +kernel
theorem d_X6_isWord_12 : decode prog_8_method_3_code 12 = .ok (.getfield 25, 3) := by decide +kernel
theorem d_X6_isWord_15 : decode prog_8_method_3_code 15 = .ok (.getfield 81, 3) := by decide +kernel
theorem d_X6_isWord_18 : decode prog_8_method_3_code 18 = .ok (.lload_n 1, 1) := by decide +kernel
theorem d_X6_isWord_19 : decode prog_8_method_3_code 19 = .ok (.lcmp, 1) := by decide +kernel
theorem d_X6_isWord_20 : decode prog_8_method_3_code 20 = .ok (.ifCond .ne 7, 3) := by decide +kernel
theorem d_X6_isWord_23 : decode prog_8_method_3_code 23 = .ok (.iconst 1, 1) := by decide +kernel
theorem d_X6_isWord_24 : decode prog_8_method_3_code 24 = .ok (.goto 4, 3) := by decide +kernel
theorem d_X6_isWord_27 : decode prog_8_method_3_code 27 = .ok (.iconst 0, 1) := by decide +kernel
theorem d_X6_isWord_28 : decode prog_8_method_3_code 28 = .ok (.ireturn, 1) := by decide +kernel
theorem d_X3_isFull_0 : decode prog_5_method_3_code 0 = .ok (.aload_n 0, 1) := by decide +kernel
theorem d_X3_isFull_1 : decode prog_5_method_3_code 1 = .ok (.getfield 22, 3) := by decide +kernel
theorem d_X3_isFull_4 : decode prog_5_method_3_code 4 = .ok (.bipush 16, 2) := by decide +kernel
theorem d_X3_isFull_6 : decode prog_5_method_3_code 6 = .ok (.if_icmp .lt 7, 3) := by decide +kernel
theorem d_X3_isFull_9 : decode prog_5_method_3_code 9 = .ok (.iconst 1, 1) := by decide +kernel
theorem d_X3_isFull_10 : decode prog_5_method_3_code 10 = .ok (.goto 4, 3) := by decide +kernel
theorem d_X3_isFull_13 : decode prog_5_method_3_code 13 = .ok (.iconst 0, 1) := by decide +kernel
theorem d_X3_isFull_14 : decode prog_5_method_3_code 14 = .ok (.ireturn, 1) := by decide +kernel
theorem d_X3_add_0 : decode prog_5_method_5_code 0 = .ok (.aload_n 0, 1) := by decide +kernel
theorem d_X3_add_1 : decode prog_5_method_5_code 1 = .ok (.invokevirtual 26, 3) := by decide +kernel
theorem d_X3_add_4 : decode prog_5_method_5_code 4 = .ok (.ifCond .ne 33, 3) := by decide +kernel
theorem d_X3_add_7 : decode prog_5_method_5_code 7 = .ok (.aload_n 0, 1) := by decide +kernel
theorem d_X3_add_8 : decode prog_5_method_5_code 8 = .ok (.getfield 9, 3) := by decide +kernel
theorem d_X3_add_11 : decode prog_5_method_5_code 11 = .ok (.aload_n 0, 1) := by decide +kernel
theorem d_X3_add_12 : decode prog_5_method_5_code 12 = .ok (.getfield 22, 3) := by decide +kernel
theorem d_X3_add_15 : decode prog_5_method_5_code 15 = .ok (.lload_n 1, 1) := by decide +kernel
theorem d_X3_add_16 : decode prog_5_method_5_code 16 = .ok (.lastore, 1) := by decide +kernel
theorem d_X3_add_17 : decode prog_5_method_5_code 17 = .ok (.aload_n 0, 1) := by decide +kernel
theorem d_X3_add_18 : decode prog_5_method_5_code 18 = .ok (.getfield 15, 3) := by decide +kernel
theorem d_X3_add_21 : decode prog_5_method_5_code 21 = .ok (.aload_n 0, 1) := by decide +kernel
theorem d_X3_add_22 : decode prog_5_method_5_code 22 = .ok (.getfield 22, 3) := by decide +kernel
theorem d_X3_add_25 : decode prog_5_method_5_code 25 = .ok (.iconst 0, 1) := by decide +kernel
theorem d_X3_add_26 : decode prog_5_method_5_code 26 = .ok (.iastore, 1) := by decide +kernel
theorem d_X3_add_27 : decode prog_5_method_5_code 27 = .ok (.aload_n 0, 1) := by decide +kernel
theorem d_X3_add_28 : decode prog_5_method_5_code 28 = .ok (.dup, 1) := by decide +kernel
theorem d_X3_add_29 : decode prog_5_method_5_code 29 = .ok (.getfield 22, 3) := by decide +kernel
theorem d_X3_add_32 : decode prog_5_method_5_code 32 = .ok (.iconst 1, 1) := by decide +kernel
theorem d_X3_add_33 : decode prog_5_method_5_code 33 = .ok (.iadd, 1) := by decide +kernel
theorem d_X3_add_34 : decode prog_5_method_5_code 34 = .ok (.putfield 22, 3) := by decide +kernel
theorem d_X3_add_37 : decode prog_5_method_5_code 37 = .ok (.return_, 1) := by decide +kernel
theorem d_X3_find_0 : decode prog_5_method_4_code 0 = .ok (.iconst 0, 1) := by decide +kernel
theorem d_X3_find_1 : decode prog_5_method_4_code 1 = .ok (.istore_n 3, 1) := by decide +kernel
theorem d_X3_find_2 : decode prog_5_method_4_code 2 = .ok (.iload_n 3, 1) := by decide +kernel
theorem d_X3_find_3 : decode prog_5_method_4_code 3 = .ok (.aload_n 0, 1) := by decide +kernel
theorem d_X3_find_4 : decode prog_5_method_4_code 4 = .ok (.getfield 22, 3) := by decide +kernel
theorem d_X3_find_7 : decode prog_5_method_4_code 7 = .ok (.if_icmp .ge 28, 3) := by decide +kernel
theorem d_X3_find_10 : decode prog_5_method_4_code 10 = .ok (.iload_n 3, 1) := by decide +kernel
theorem d_X3_find_11 : decode prog_5_method_4_code 11 = .ok (.bipush 16, 2) := by decide +kernel
theorem d_X3_find_13 : decode prog_5_method_4_code 13 = .ok (.if_icmp .ge 22, 3) := by decide +kernel
theorem d_X3_find_16 : decode prog_5_method_4_code 16 = .ok (.aload_n 0, 1) := by decide +kernel
theorem d_X3_find_17 : decode prog_5_method_4_code 17 = .ok (.getfield 9, 3) := by decide +kernel
theorem d_X3_find_20 : decode prog_5_method_4_code 20 = .ok (.iload_n 3, 1) := by decide +kernel
theorem d_X3_find_21 : decode prog_5_method_4_code 21 = .ok (.laload, 1) := by decide +kernel
theorem d_X3_find_22 : decode prog_5_method_4_code 22 = .ok (.lload_n 1, 1) := by decide +kernel
theorem d_X3_find_23 : decode prog_5_method_4_code 23 = .ok (.lcmp, 1) := by decide +kernel
theorem d_X3_find_24 : decode prog_5_method_4_code 24 = .ok (.ifCond .ne 5, 3) := by decide +kernel
theorem d_X3_find_27 : decode prog_5_method_4_code 27 = .ok (.iload_n 3, 1) := by decide +kernel
theorem d_X3_find_28 : decode prog_5_method_4_code 28 = .ok (.ireturn, 1) := by decide +kernel
theorem d_X3_find_29 : decode prog_5_method_4_code 29 = .ok (.iinc 3 1, 3) := by decide +kernel
theorem d_X3_find_32 : decode prog_5_method_4_code 32 = .ok (.goto (-30), 3) := by decide +kernel
theorem d_X3_find_35 : decode prog_5_method_4_code 35 = .ok (.iconst (-1), 1) := by decide +kernel
theorem d_X3_find_36 : decode prog_5_method_4_code 36 = .ok (.ireturn, 1) := by decide +kernel
theorem d_X6_refuseToken_0 : decode prog_8_method_5_code 0 = .ok (.aload_n 0, 1) := by decide +kernel
theorem d_X6_refuseToken_1 : decode prog_8_method_5_code 1 = .ok (.aload_n 0, 1) := by decide +kernel
theorem d_X6_refuseToken_2 : decode prog_8_method_5_code 2 = .ok (.getfield 25, 3) := by decide +kernel
theorem d_X6_refuseToken_5 : decode prog_8_method_5_code 5 = .ok (.getfield 53, 3) := by decide +kernel
theorem d_X6_refuseToken_8 : decode prog_8_method_5_code 8 = .ok (.ifCond .ne 7, 3) := by decide +kernel
theorem d_X6_refuseToken_11 : decode prog_8_method_5_code 11 = .ok (.iconst 1, 1) := by decide +kernel
theorem d_X6_refuseToken_12 : decode prog_8_method_5_code 12 = .ok (.goto 4, 3) := by decide +kernel
theorem d_X6_refuseToken_15 : decode prog_8_method_5_code 15 = .ok (.iconst 2, 1) := by decide +kernel
theorem d_X6_refuseToken_16 : decode prog_8_method_5_code 16 = .ok (.putfield 47, 3) := by decide +kernel
theorem d_X6_refuseToken_19 : decode prog_8_method_5_code 19 = .ok (.aload_n 0, 1) := by decide +kernel
theorem d_X6_refuseToken_20 : decode prog_8_method_5_code 20 = .ok (.aload_n 0, 1) := by decide +kernel
theorem d_X6_refuseToken_21 : decode prog_8_method_5_code 21 = .ok (.getfield 25, 3) := by decide +kernel
theorem d_X6_refuseToken_24 : decode prog_8_method_5_code 24 = .ok (.getfield 85, 3) := by decide +kernel
theorem d_X6_refuseToken_27 : decode prog_8_method_5_code 27 = .ok (.putfield 36, 3) := by decide +kernel
theorem d_X6_refuseToken_30 : decode prog_8_method_5_code 30 = .ok (.return_, 1) := by decide +kernel
theorem d_X9_advance_0 : decode prog_11_method_8_code 0 = .ok (.aload_n 0, 1) := by decide +kernel
theorem d_X9_advance_1 : decode prog_11_method_8_code 1 = .ok (.getfield 51, 3) := by decide +kernel
theorem d_X9_advance_4 : decode prog_11_method_8_code 4 = .ok (.iconst 1, 1) := by decide +kernel
theorem d_X9_advance_5 : decode prog_11_method_8_code 5 = .ok (.iadd, 1) := by decide +kernel
theorem d_X9_advance_6 : decode prog_11_method_8_code 6 = .ok (.aload_n 0, 1) := by decide +kernel
theorem d_X9_advance_7 : decode prog_11_method_8_code 7 = .ok (.getfield 34, 3) := by decide +kernel
theorem d_X9_advance_10 : decode prog_11_method_8_code 10 = .ok (.iconst 1, 1) := by decide +kernel
theorem d_X9_advance_11 : decode prog_11_method_8_code 11 = .ok (.isub, 1) := by decide +kernel
theorem d_X9_advance_12 : decode prog_11_method_8_code 12 = .ok (.invokestatic 77, 3) := by decide +kernel
theorem d_X9_advance_15 : decode prog_11_method_8_code 15 = .ok (.istore_n 1, 1) := by decide +kernel
theorem d_X9_advance_16 : decode prog_11_method_8_code 16 = .ok (.iload_n 1, 1) := by decide +kernel
theorem d_X9_advance_17 : decode prog_11_method_8_code 17 = .ok (.ifCond .lt 45, 3) := by decide +kernel
theorem d_X9_advance_20 : decode prog_11_method_8_code 20 = .ok (.iload_n 1, 1) := by decide +kernel
theorem d_X9_advance_21 : decode prog_11_method_8_code 21 = .ok (.sipush 4000, 3) := by decide +kernel
theorem d_X9_advance_24 : decode prog_11_method_8_code 24 = .ok (.if_icmp .gt 38, 3) := by decide +kernel
theorem d_X9_advance_27 : decode prog_11_method_8_code 27 = .ok (.aload_n 0, 1) := by decide +kernel
theorem d_X9_advance_28 : decode prog_11_method_8_code 28 = .ok (.iload_n 1, 1) := by decide +kernel
theorem d_X9_advance_29 : decode prog_11_method_8_code 29 = .ok (.putfield 51, 3) := by decide +kernel
theorem d_X9_advance_32 : decode prog_11_method_8_code 32 = .ok (.aload_n 0, 1) := by decide +kernel
theorem d_X9_advance_33 : decode prog_11_method_8_code 33 = .ok (.aload_n 0, 1) := by decide +kernel
theorem d_X9_advance_34 : decode prog_11_method_8_code 34 = .ok (.getfield 15, 3) := by decide +kernel
theorem d_X9_advance_37 : decode prog_11_method_8_code 37 = .ok (.iload_n 1, 1) := by decide +kernel
theorem d_X9_advance_38 : decode prog_11_method_8_code 38 = .ok (.iaload, 1) := by decide +kernel
theorem d_X9_advance_39 : decode prog_11_method_8_code 39 = .ok (.putfield 80, 3) := by decide +kernel
theorem d_X9_advance_42 : decode prog_11_method_8_code 42 = .ok (.aload_n 0, 1) := by decide +kernel
theorem d_X9_advance_43 : decode prog_11_method_8_code 43 = .ok (.aload_n 0, 1) := by decide +kernel
theorem d_X9_advance_44 : decode prog_11_method_8_code 44 = .ok (.getfield 19, 3) := by decide +kernel
theorem d_X9_advance_47 : decode prog_11_method_8_code 47 = .ok (.iload_n 1, 1) := by decide +kernel
theorem d_X9_advance_48 : decode prog_11_method_8_code 48 = .ok (.iaload, 1) := by decide +kernel
theorem d_X9_advance_49 : decode prog_11_method_8_code 49 = .ok (.putfield 83, 3) := by decide +kernel
theorem d_X9_advance_52 : decode prog_11_method_8_code 52 = .ok (.aload_n 0, 1) := by decide +kernel
theorem d_X9_advance_53 : decode prog_11_method_8_code 53 = .ok (.aload_n 0, 1) := by decide +kernel
theorem d_X9_advance_54 : decode prog_11_method_8_code 54 = .ok (.getfield 22, 3) := by decide +kernel
theorem d_X9_advance_57 : decode prog_11_method_8_code 57 = .ok (.iload_n 1, 1) := by decide +kernel
theorem d_X9_advance_58 : decode prog_11_method_8_code 58 = .ok (.laload, 1) := by decide +kernel
theorem d_X9_advance_59 : decode prog_11_method_8_code 59 = .ok (.putfield 86, 3) := by decide +kernel
theorem d_X9_advance_62 : decode prog_11_method_8_code 62 = .ok (.return_, 1) := by decide +kernel
theorem d_X6_pass_0 : decode prog_8_method_6_code 0 = .ok (.aload_n 0, 1) := by decide +kernel
theorem d_X6_pass_1 : decode prog_8_method_6_code 1 = .ok (.getfield 25, 3) := by decide +kernel
theorem d_X6_pass_4 : decode prog_8_method_6_code 4 = .ok (.getfield 53, 3) := by decide +kernel
theorem d_X6_pass_7 : decode prog_8_method_6_code 7 = .ok (.iload_n 1, 1) := by decide +kernel
theorem d_X6_pass_8 : decode prog_8_method_6_code 8 = .ok (.if_icmp .ne 13, 3) := by decide +kernel
theorem d_X6_pass_11 : decode prog_8_method_6_code 11 = .ok (.aload_n 0, 1) := by decide +kernel
theorem d_X6_pass_12 : decode prog_8_method_6_code 12 = .ok (.getfield 25, 3) := by decide +kernel
theorem d_X6_pass_15 : decode prog_8_method_6_code 15 = .ok (.invokevirtual 88, 3) := by decide +kernel
theorem d_X6_pass_18 : decode prog_8_method_6_code 18 = .ok (.goto 7, 3) := by decide +kernel
theorem d_X6_pass_21 : decode prog_8_method_6_code 21 = .ok (.aload_n 0, 1) := by decide +kernel
theorem d_X6_pass_22 : decode prog_8_method_6_code 22 = .ok (.invokevirtual 75, 3) := by decide +kernel
theorem d_X6_pass_25 : decode prog_8_method_6_code 25 = .ok (.return_, 1) := by decide +kernel
theorem d_X3_addPort_0 : decode prog_5_method_6_code 0 = .ok (.aload_n 0, 1) := by decide +kernel
theorem d_X3_addPort_1 : decode prog_5_method_6_code 1 = .ok (.getfield 22, 3) := by decide +kernel
theorem d_X3_addPort_4 : decode prog_5_method_6_code 4 = .ok (.iconst 1, 1) := by decide +kernel
theorem d_X3_addPort_5 : decode prog_5_method_6_code 5 = .ok (.isub, 1) := by decide +kernel
theorem d_X3_addPort_6 : decode prog_5_method_6_code 6 = .ok (.istore_n 2, 1) := by decide +kernel
theorem d_X3_addPort_7 : decode prog_5_method_6_code 7 = .ok (.aload_n 0, 1) := by decide +kernel
theorem d_X3_addPort_8 : decode prog_5_method_6_code 8 = .ok (.iload_n 2, 1) := by decide +kernel
theorem d_X3_addPort_9 : decode prog_5_method_6_code 9 = .ok (.invokevirtual 30, 3) := by decide +kernel
theorem d_X3_addPort_12 : decode prog_5_method_6_code 12 = .ok (.ifCond .eq 39, 3) := by decide +kernel
theorem d_X3_addPort_15 : decode prog_5_method_6_code 15 = .ok (.aload_n 0, 1) := by decide +kernel
theorem d_X3_addPort_16 : decode prog_5_method_6_code 16 = .ok (.getfield 15, 3) := by decide +kernel
theorem d_X3_addPort_19 : decode prog_5_method_6_code 19 = .ok (.iload_n 2, 1) := by decide +kernel
theorem d_X3_addPort_20 : decode prog_5_method_6_code 20 = .ok (.iaload, 1) := by decide +kernel
theorem d_X3_addPort_21 : decode prog_5_method_6_code 21 = .ok (.iconst 5, 1) := by decide +kernel
theorem d_X3_addPort_22 : decode prog_5_method_6_code 22 = .ok (.if_icmp .ge 29, 3) := by decide +kernel
theorem d_X3_addPort_25 : decode prog_5_method_6_code 25 = .ok (.aload_n 0, 1) := by decide +kernel
theorem d_X3_addPort_26 : decode prog_5_method_6_code 26 = .ok (.getfield 19, 3) := by decide +kernel
theorem d_X3_addPort_29 : decode prog_5_method_6_code 29 = .ok (.iload_n 2, 1) := by decide +kernel
theorem d_X3_addPort_30 : decode prog_5_method_6_code 30 = .ok (.iconst 5, 1) := by decide +kernel
theorem d_X3_addPort_31 : decode prog_5_method_6_code 31 = .ok (.imul, 1) := by decide +kernel
theorem d_X3_addPort_32 : decode prog_5_method_6_code 32 = .ok (.aload_n 0, 1) := by decide +kernel
theorem d_X3_addPort_33 : decode prog_5_method_6_code 33 = .ok (.getfield 15, 3) := by decide +kernel
theorem d_X3_addPort_36 : decode prog_5_method_6_code 36 = .ok (.iload_n 2, 1) := by decide +kernel
theorem d_X3_addPort_37 : decode prog_5_method_6_code 37 = .ok (.iaload, 1) := by decide +kernel
theorem d_X3_addPort_38 : decode prog_5_method_6_code 38 = .ok (.iadd, 1) := by decide +kernel
theorem d_X3_addPort_39 : decode prog_5_method_6_code 39 = .ok (.iload_n 1, 1) := by decide +kernel
theorem d_X3_addPort_40 : decode prog_5_method_6_code 40 = .ok (.iastore, 1) := by decide +kernel
theorem d_X3_addPort_41 : decode prog_5_method_6_code 41 = .ok (.aload_n 0, 1) := by decide +kernel
theorem d_X3_addPort_42 : decode prog_5_method_6_code 42 = .ok (.getfield 15, 3) := by decide +kernel
theorem d_X3_addPort_45 : decode prog_5_method_6_code 45 = .ok (.iload_n 2, 1) := by decide +kernel
theorem d_X3_addPort_46 : decode prog_5_method_6_code 46 = .ok (.dup2, 1) := by decide +kernel
theorem d_X3_addPort_47 : decode prog_5_method_6_code 47 = .ok (.iaload, 1) := by decide +kernel
theorem d_X3_addPort_48 : decode prog_5_method_6_code 48 = .ok (.iconst 1, 1) := by decide +kernel
theorem d_X3_addPort_49 : decode prog_5_method_6_code 49 = .ok (.iadd, 1) := by decide +kernel
theorem d_X3_addPort_50 : decode prog_5_method_6_code 50 = .ok (.iastore, 1) := by decide +kernel
theorem d_X3_addPort_51 : decode prog_5_method_6_code 51 = .ok (.return_, 1) := by decide +kernel
theorem d_X6_refuse_0 : decode prog_8_method_4_code 0 = .ok (.aload_n 0, 1) := by decide +kernel
theorem d_X6_refuse_1 : decode prog_8_method_4_code 1 = .ok (.iload_n 1, 1) := by decide +kernel
theorem d_X6_refuse_2 : decode prog_8_method_4_code 2 = .ok (.putfield 47, 3) := by decide +kernel
theorem d_X6_refuse_5 : decode prog_8_method_4_code 5 = .ok (.aload_n 0, 1) := by decide +kernel
theorem d_X6_refuse_6 : decode prog_8_method_4_code 6 = .ok (.aload_n 0, 1) := by decide +kernel
theorem d_X6_refuse_7 : decode prog_8_method_4_code 7 = .ok (.getfield 25, 3) := by decide +kernel
theorem d_X6_refuse_10 : decode prog_8_method_4_code 10 = .ok (.getfield 85, 3) := by decide +kernel
theorem d_X6_refuse_13 : decode prog_8_method_4_code 13 = .ok (.putfield 36, 3) := by decide +kernel
theorem d_X6_refuse_16 : decode prog_8_method_4_code 16 = .ok (.return_, 1) := by decide +kernel
theorem d_X6_readPort_0 : decode prog_8_method_9_code 0 = .ok (.aload_n 0, 1) := by decide +kernel
theorem d_X6_readPort_1 : decode prog_8_method_9_code 1 = .ok (.getfield 25, 3) := by decide +kernel
theorem d_X6_readPort_4 : decode prog_8_method_9_code 4 = .ok (.getfield 81, 3) := by decide +kernel
theorem d_X6_readPort_7 : decode prog_8_method_9_code 7 = .ok (.ldc2_w 122, 3) := by decide +kernel
theorem d_X6_readPort_10 : decode prog_8_method_9_code 10 = .ok (.lsub, 1) := by decide +kernel
theorem d_X6_readPort_11 : decode prog_8_method_9_code 11 = .ok (.lstore_n 2, 1) := by decide +kernel
theorem d_X6_readPort_12 : decode prog_8_method_9_code 12 = .ok (.aload_n 0, 1) := by decide +kernel
theorem d_X6_readPort_13 : decode prog_8_method_9_code 13 = .ok (.getfield 25, 3) := by decide +kernel
theorem d_X6_readPort_16 : decode prog_8_method_9_code 16 = .ok (.getfield 53, 3) := by decide +kernel
theorem d_X6_readPort_19 : decode prog_8_method_9_code 19 = .ok (.iconst 2, 1) := by decide +kernel
theorem d_X6_readPort_20 : decode prog_8_method_9_code 20 = .ok (.if_icmp .ne 17, 3) := by decide +kernel
theorem d_X6_readPort_23 : decode prog_8_method_9_code 23 = .ok (.lload_n 2, 1) := by decide +kernel
theorem d_X6_readPort_24 : decode prog_8_method_9_code 24 = .ok (.lconst 0, 1) := by decide +kernel
theorem d_X6_readPort_25 : decode prog_8_method_9_code 25 = .ok (.lcmp, 1) := by decide +kernel
theorem d_X6_readPort_26 : decode prog_8_method_9_code 26 = .ok (.ifCond .lt 11, 3) := by decide +kernel
theorem d_X6_readPort_29 : decode prog_8_method_9_code 29 = .ok (.lload_n 2, 1) := by decide +kernel
theorem d_X6_readPort_30 : decode prog_8_method_9_code 30 = .ok (.ldc2_w 124, 3) := by decide +kernel
theorem d_X6_readPort_33 : decode prog_8_method_9_code 33 = .ok (.lcmp, 1) := by decide +kernel
theorem d_X6_readPort_34 : decode prog_8_method_9_code 34 = .ok (.ifCond .le 10, 3) := by decide +kernel
theorem d_X6_readPort_37 : decode prog_8_method_9_code 37 = .ok (.aload_n 0, 1) := by decide +kernel
theorem d_X6_readPort_38 : decode prog_8_method_9_code 38 = .ok (.invokevirtual 75, 3) := by decide +kernel
theorem d_X6_readPort_41 : decode prog_8_method_9_code 41 = .ok (.goto 92, 3) := by decide +kernel
theorem d_X6_readPort_44 : decode prog_8_method_9_code 44 = .ok (.iload_n 1, 1) := by decide +kernel
theorem d_X6_readPort_45 : decode prog_8_method_9_code 45 = .ok (.iconst 5, 1) := by decide +kernel
theorem d_X6_readPort_46 : decode prog_8_method_9_code 46 = .ok (.if_icmp .lt 11, 3) := by decide +kernel
theorem d_X6_readPort_49 : decode prog_8_method_9_code 49 = .ok (.aload_n 0, 1) := by decide +kernel
theorem d_X6_readPort_50 : decode prog_8_method_9_code 50 = .ok (.iconst 4, 1) := by decide +kernel
theorem d_X6_readPort_51 : decode prog_8_method_9_code 51 = .ok (.invokevirtual 101, 3) := by decide +kernel
theorem d_X6_readPort_54 : decode prog_8_method_9_code 54 = .ok (.goto 79, 3) := by decide +kernel
theorem d_X6_readPort_57 : decode prog_8_method_9_code 57 = .ok (.aload_n 0, 1) := by decide +kernel
theorem d_X6_readPort_58 : decode prog_8_method_9_code 58 = .ok (.getfield 25, 3) := by decide +kernel
theorem d_X6_readPort_61 : decode prog_8_method_9_code 61 = .ok (.invokevirtual 88, 3) := by decide +kernel
theorem d_X6_readPort_64 : decode prog_8_method_9_code 64 = .ok (.aload_n 0, 1) := by decide +kernel
theorem d_X6_readPort_65 : decode prog_8_method_9_code 65 = .ok (.getfield 25, 3) := by decide +kernel
theorem d_X6_readPort_68 : decode prog_8_method_9_code 68 = .ok (.getfield 53, 3) := by decide +kernel
theorem d_X6_readPort_71 : decode prog_8_method_9_code 71 = .ok (.bipush 43, 2) := by decide +kernel
theorem d_X6_readPort_73 : decode prog_8_method_9_code 73 = .ok (.if_icmp .eq 15, 3) := by decide +kernel
theorem d_X6_readPort_76 : decode prog_8_method_9_code 76 = .ok (.aload_n 0, 1) := by decide +kernel
theorem d_X6_readPort_77 : decode prog_8_method_9_code 77 = .ok (.getfield 25, 3) := by decide +kernel
theorem d_X6_readPort_80 : decode prog_8_method_9_code 80 = .ok (.getfield 53, 3) := by decide +kernel
theorem d_X6_readPort_83 : decode prog_8_method_9_code 83 = .ok (.bipush 45, 2) := by decide +kernel
theorem d_X6_readPort_85 : decode prog_8_method_9_code 85 = .ok (.if_icmp .ne 44, 3) := by decide +kernel
theorem d_X6_readPort_88 : decode prog_8_method_9_code 88 = .ok (.aload_n 0, 1) := by decide +kernel
theorem d_X6_readPort_89 : decode prog_8_method_9_code 89 = .ok (.getfield 32, 3) := by decide +kernel
theorem d_X6_readPort_92 : decode prog_8_method_9_code 92 = .ok (.getfield 91, 3) := by decide +kernel
theorem d_X6_readPort_95 : decode prog_8_method_9_code 95 = .ok (.aload_n 0, 1) := by decide +kernel
theorem d_X6_readPort_96 : decode prog_8_method_9_code 96 = .ok (.getfield 25, 3) := by decide +kernel
theorem d_X6_readPort_99 : decode prog_8_method_9_code 99 = .ok (.getfield 53, 3) := by decide +kernel
theorem d_X6_readPort_102 : decode prog_8_method_9_code 102 = .ok (.bipush 43, 2) := by decide +kernel
theorem d_X6_readPort_104 : decode prog_8_method_9_code 104 = .ok (.if_icmp .ne 8, 3) := by decide +kernel
theorem d_X6_readPort_107 : decode prog_8_method_9_code 107 = .ok (.lload_n 2, 1) := by decide +kernel
theorem d_X6_readPort_108 : decode prog_8_method_9_code 108 = .ok (.l2i, 1) := by decide +kernel
theorem d_X6_readPort_109 : decode prog_8_method_9_code 109 = .ok (.goto 7, 3) := by decide +kernel
theorem d_X6_readPort_112 : decode prog_8_method_9_code 112 = .ok (.lload_n 2, 1) := by decide +kernel
theorem d_X6_readPort_113 : decode prog_8_method_9_code 113 = .ok (.l2i, 1) := by decide +kernel
theorem d_X6_readPort_114 : decode prog_8_method_9_code 114 = .ok (.iconst (-1), 1) := by decide +kernel
theorem d_X6_readPort_115 : decode prog_8_method_9_code 115 = .ok (.ixor, 1) := by decide +kernel
theorem d_X6_readPort_116 : decode prog_8_method_9_code 116 = .ok (.invokevirtual 126, 3) := by decide +kernel
theorem d_X6_readPort_119 : decode prog_8_method_9_code 119 = .ok (.aload_n 0, 1) := by decide +kernel
theorem d_X6_readPort_120 : decode prog_8_method_9_code 120 = .ok (.getfield 25, 3) := by decide +kernel
theorem d_X6_readPort_123 : decode prog_8_method_9_code 123 = .ok (.invokevirtual 88, 3) := by decide +kernel
theorem d_X6_readPort_126 : decode prog_8_method_9_code 126 = .ok (.goto 7, 3) := by decide +kernel
theorem d_X6_readPort_129 : decode prog_8_method_9_code 129 = .ok (.aload_n 0, 1) := by decide +kernel
theorem d_X6_readPort_130 : decode prog_8_method_9_code 130 = .ok (.invokevirtual 75, 3) := by decide +kernel
theorem d_X6_readPort_133 : decode prog_8_method_9_code 133 = .ok (.return_, 1) := by decide +kernel
theorem d_X6_readPorts_0 : decode prog_8_method_8_code 0 = .ok (.aload_n 0, 1) := by decide +kernel
theorem d_X6_readPorts_1 : decode prog_8_method_8_code 1 = .ok (.iconst 0, 1) := by decide +kernel
theorem d_X6_readPorts_2 : decode prog_8_method_8_code 2 = .ok (.invokevirtual 116, 3) := by decide +kernel
theorem d_X6_readPorts_5 : decode prog_8_method_8_code 5 = .ok (.aload_n 0, 1) := by decide +kernel
theorem d_X6_readPorts_6 : decode prog_8_method_8_code 6 = .ok (.getfield 47, 3) := by decide +kernel
theorem d_X6_readPorts_9 : decode prog_8_method_8_code 9 = .ok (.ifCond .ne 69, 3) := by decide +kernel
theorem d_X6_readPorts_12 : decode prog_8_method_8_code 12 = .ok (.aload_n 0, 1) := by decide +kernel
theorem d_X6_readPorts_13 : decode prog_8_method_8_code 13 = .ok (.getfield 25, 3) := by decide +kernel
theorem d_X6_readPorts_16 : decode prog_8_method_8_code 16 = .ok (.getfield 53, 3) := by decide +kernel
theorem d_X6_readPorts_19 : decode prog_8_method_8_code 19 = .ok (.bipush 40, 2) := by decide +kernel
theorem d_X6_readPorts_21 : decode prog_8_method_8_code 21 = .ok (.if_icmp .ne 57, 3) := by decide +kernel
theorem d_X6_readPorts_24 : decode prog_8_method_8_code 24 = .ok (.iconst 1, 1) := by decide +kernel
theorem d_X6_readPorts_25 : decode prog_8_method_8_code 25 = .ok (.istore_n 1, 1) := by decide +kernel
theorem d_X6_readPorts_26 : decode prog_8_method_8_code 26 = .ok (.aload_n 0, 1) := by decide +kernel
theorem d_X6_readPorts_27 : decode prog_8_method_8_code 27 = .ok (.getfield 25, 3) := by decide +kernel
theorem d_X6_readPorts_30 : decode prog_8_method_8_code 30 = .ok (.invokevirtual 88, 3) := by decide +kernel
theorem d_X6_readPorts_33 : decode prog_8_method_8_code 33 = .ok (.aload_n 0, 1) := by decide +kernel
theorem d_X6_readPorts_34 : decode prog_8_method_8_code 34 = .ok (.iload_n 1, 1) := by decide +kernel
theorem d_X6_readPorts_35 : decode prog_8_method_8_code 35 = .ok (.invokevirtual 116, 3) := by decide +kernel
theorem d_X6_readPorts_38 : decode prog_8_method_8_code 38 = .ok (.iinc 1 1, 3) := by decide +kernel
theorem d_X6_readPorts_41 : decode prog_8_method_8_code 41 = .ok (.aload_n 0, 1) := by decide +kernel
theorem d_X6_readPorts_42 : decode prog_8_method_8_code 42 = .ok (.getfield 47, 3) := by decide +kernel
theorem d_X6_readPorts_45 : decode prog_8_method_8_code 45 = .ok (.ifCond .ne 20, 3) := by decide +kernel
theorem d_X6_readPorts_48 : decode prog_8_method_8_code 48 = .ok (.aload_n 0, 1) := by decide +kernel
theorem d_X6_readPorts_49 : decode prog_8_method_8_code 49 = .ok (.getfield 25, 3) := by decide +kernel
theorem d_X6_readPorts_52 : decode prog_8_method_8_code 52 = .ok (.getfield 53, 3) := by decide +kernel
theorem d_X6_readPorts_55 : decode prog_8_method_8_code 55 = .ok (.bipush 44, 2) := by decide +kernel
theorem d_X6_readPorts_57 : decode prog_8_method_8_code 57 = .ok (.if_icmp .ne 8, 3) := by decide +kernel
theorem d_X6_readPorts_60 : decode prog_8_method_8_code 60 = .ok (.iload_n 1, 1) := by decide +kernel
theorem d_X6_readPorts_61 : decode prog_8_method_8_code 61 = .ok (.iconst 5, 1) := by decide +kernel
theorem d_X6_readPorts_62 : decode prog_8_method_8_code 62 = .ok (.if_icmp .le (-36), 3) := by decide +kernel
theorem d_X6_readPorts_65 : decode prog_8_method_8_code 65 = .ok (.aload_n 0, 1) := by decide +kernel
theorem d_X6_readPorts_66 : decode prog_8_method_8_code 66 = .ok (.getfield 47, 3) := by decide +kernel
theorem d_X6_readPorts_69 : decode prog_8_method_8_code 69 = .ok (.ifCond .ne 9, 3) := by decide +kernel
theorem d_X6_readPorts_72 : decode prog_8_method_8_code 72 = .ok (.aload_n 0, 1) := by decide +kernel
theorem d_X6_readPorts_73 : decode prog_8_method_8_code 73 = .ok (.bipush 41, 2) := by decide +kernel
theorem d_X6_readPorts_75 : decode prog_8_method_8_code 75 = .ok (.invokevirtual 119, 3) := by decide +kernel
theorem d_X6_readPorts_78 : decode prog_8_method_8_code 78 = .ok (.aload_n 0, 1) := by decide +kernel
theorem d_X6_readPorts_79 : decode prog_8_method_8_code 79 = .ok (.getfield 47, 3) := by decide +kernel
theorem d_X6_readPorts_82 : decode prog_8_method_8_code 82 = .ok (.ifCond .ne 9, 3) := by decide +kernel
theorem d_X6_readPorts_85 : decode prog_8_method_8_code 85 = .ok (.aload_n 0, 1) := by decide +kernel
theorem d_X6_readPorts_86 : decode prog_8_method_8_code 86 = .ok (.bipush 59, 2) := by decide +kernel
theorem d_X6_readPorts_88 : decode prog_8_method_8_code 88 = .ok (.invokevirtual 119, 3) := by decide +kernel
theorem d_X6_readPorts_91 : decode prog_8_method_8_code 91 = .ok (.return_, 1) := by decide +kernel
theorem d_X6_readKind_0 : decode prog_8_method_7_code 0 = .ok (.aload_n 0, 1) := by decide +kernel
theorem d_X6_readKind_1 : decode prog_8_method_7_code 1 = .ok (.getfield 25, 3) := by decide +kernel
theorem d_X6_readKind_4 : decode prog_8_method_7_code 4 = .ok (.invokevirtual 88, 3) := by decide +kernel
theorem d_X6_readKind_7 : decode prog_8_method_7_code 7 = .ok (.aload_n 0, 1) := by decide +kernel
theorem d_X6_readKind_8 : decode prog_8_method_7_code 8 = .ok (.getfield 25, 3) := by decide +kernel
theorem d_X6_readKind_11 : decode prog_8_method_7_code 11 = .ok (.getfield 53, 3) := by decide +kernel
theorem d_X6_readKind_14 : decode prog_8_method_7_code 14 = .ok (.iconst 3, 1) := by decide +kernel
theorem d_X6_readKind_15 : decode prog_8_method_7_code 15 = .ok (.if_icmp .eq 10, 3) := by decide +kernel
theorem d_X6_readKind_18 : decode prog_8_method_7_code 18 = .ok (.aload_n 0, 1) := by decide +kernel
theorem d_X6_readKind_19 : decode prog_8_method_7_code 19 = .ok (.invokevirtual 75, 3) := by decide +kernel
theorem d_X6_readKind_22 : decode prog_8_method_7_code 22 = .ok (.goto 81, 3) := by decide +kernel
theorem d_X6_readKind_25 : decode prog_8_method_7_code 25 = .ok (.aload_n 0, 1) := by decide +kernel
theorem d_X6_readKind_26 : decode prog_8_method_7_code 26 = .ok (.getfield 32, 3) := by decide +kernel
theorem d_X6_readKind_29 : decode prog_8_method_7_code 29 = .ok (.getfield 91, 3) := by decide +kernel
theorem d_X6_readKind_32 : decode prog_8_method_7_code 32 = .ok (.aload_n 0, 1) := by decide +kernel
theorem d_X6_readKind_33 : decode prog_8_method_7_code 33 = .ok (.getfield 25, 3) := by decide +kernel
theorem d_X6_readKind_36 : decode prog_8_method_7_code 36 = .ok (.getfield 81, 3) := by decide +kernel
theorem d_X6_readKind_39 : decode prog_8_method_7_code 39 = .ok (.invokevirtual 95, 3) := by decide +kernel
theorem d_X6_readKind_42 : decode prog_8_method_7_code 42 = .ok (.iconst (-1), 1) := by decide +kernel
theorem d_X6_readKind_43 : decode prog_8_method_7_code 43 = .ok (.if_icmp .eq 11, 3) := by decide +kernel
theorem d_X6_readKind_46 : decode prog_8_method_7_code 46 = .ok (.aload_n 0, 1) := by decide +kernel
theorem d_X6_readKind_47 : decode prog_8_method_7_code 47 = .ok (.iconst 3, 1) := by decide +kernel
theorem d_X6_readKind_48 : decode prog_8_method_7_code 48 = .ok (.invokevirtual 101, 3) := by decide +kernel
theorem d_X6_readKind_51 : decode prog_8_method_7_code 51 = .ok (.goto 52, 3) := by decide +kernel
theorem d_X6_readKind_54 : decode prog_8_method_7_code 54 = .ok (.aload_n 0, 1) := by decide +kernel
theorem d_X6_readKind_55 : decode prog_8_method_7_code 55 = .ok (.getfield 32, 3) := by decide +kernel
theorem d_X6_readKind_58 : decode prog_8_method_7_code 58 = .ok (.getfield 91, 3) := by decide +kernel
theorem d_X6_readKind_61 : decode prog_8_method_7_code 61 = .ok (.invokevirtual 105, 3) := by decide +kernel
theorem d_X6_readKind_64 : decode prog_8_method_7_code 64 = .ok (.ifCond .eq 11, 3) := by decide +kernel
theorem d_X6_readKind_67 : decode prog_8_method_7_code 67 = .ok (.aload_n 0, 1) := by decide +kernel
theorem d_X6_readKind_68 : decode prog_8_method_7_code 68 = .ok (.iconst 4, 1) := by decide +kernel
theorem d_X6_readKind_69 : decode prog_8_method_7_code 69 = .ok (.invokevirtual 101, 3) := by decide +kernel
theorem d_X6_readKind_72 : decode prog_8_method_7_code 72 = .ok (.goto 31, 3) := by decide +kernel
theorem d_X6_readKind_75 : decode prog_8_method_7_code 75 = .ok (.aload_n 0, 1) := by decide +kernel
theorem d_X6_readKind_76 : decode prog_8_method_7_code 76 = .ok (.getfield 32, 3) := by decide +kernel
theorem d_X6_readKind_79 : decode prog_8_method_7_code 79 = .ok (.getfield 91, 3) := by decide +kernel
theorem d_X6_readKind_82 : decode prog_8_method_7_code 82 = .ok (.aload_n 0, 1) := by decide +kernel
theorem d_X6_readKind_83 : decode prog_8_method_7_code 83 = .ok (.getfield 25, 3) := by decide +kernel
theorem d_X6_readKind_86 : decode prog_8_method_7_code 86 = .ok (.getfield 81, 3) := by decide +kernel
theorem d_X6_readKind_89 : decode prog_8_method_7_code 89 = .ok (.invokevirtual 109, 3) := by decide +kernel
theorem d_X6_readKind_92 : decode prog_8_method_7_code 92 = .ok (.aload_n 0, 1) := by decide +kernel
theorem d_X6_readKind_93 : decode prog_8_method_7_code 93 = .ok (.getfield 25, 3) := by decide +kernel
theorem d_X6_readKind_96 : decode prog_8_method_7_code 96 = .ok (.invokevirtual 88, 3) := by decide +kernel
theorem d_X6_readKind_99 : decode prog_8_method_7_code 99 = .ok (.aload_n 0, 1) := by decide +kernel
theorem d_X6_readKind_100 : decode prog_8_method_7_code 100 = .ok (.invokevirtual 113, 3) := by decide +kernel
theorem d_X6_readKind_103 : decode prog_8_method_7_code 103 = .ok (.return_, 1) := by decide +kernel
theorem d_X1_clear_0 : decode prog_3_method_2_code 0 = .ok (.aload_n 0, 1) := by decide +kernel
theorem d_X1_clear_1 : decode prog_3_method_2_code 1 = .ok (.getfield 11, 3) := by decide +kernel
theorem d_X1_clear_4 : decode prog_3_method_2_code 4 = .ok (.iconst (-1), 1) := by decide +kernel
theorem d_X1_clear_5 : decode prog_3_method_2_code 5 = .ok (.invokestatic 29, 3) := by decide +kernel
theorem d_X1_clear_8 : decode prog_3_method_2_code 8 = .ok (.aload_n 0, 1) := by decide +kernel
theorem d_X1_clear_9 : decode prog_3_method_2_code 9 = .ok (.iconst 0, 1) := by decide +kernel
theorem d_X1_clear_10 : decode prog_3_method_2_code 10 = .ok (.putfield 35, 3) := by decide +kernel
theorem d_X1_clear_13 : decode prog_3_method_2_code 13 = .ok (.aload_n 0, 1) := by decide +kernel
theorem d_X1_clear_14 : decode prog_3_method_2_code 14 = .ok (.iconst 0, 1) := by decide +kernel
theorem d_X1_clear_15 : decode prog_3_method_2_code 15 = .ok (.putfield 39, 3) := by decide +kernel
theorem d_X1_clear_18 : decode prog_3_method_2_code 18 = .ok (.aload_n 0, 1) := by decide +kernel
theorem d_X1_clear_19 : decode prog_3_method_2_code 19 = .ok (.iconst 0, 1) := by decide +kernel
theorem d_X1_clear_20 : decode prog_3_method_2_code 20 = .ok (.putfield 42, 3) := by decide +kernel
theorem d_X1_clear_23 : decode prog_3_method_2_code 23 = .ok (.return_, 1) := by decide +kernel
theorem d_X1_join_0 : decode prog_3_method_8_code 0 = .ok (.iload_n 1, 1) := by decide +kernel
theorem d_X1_join_1 : decode prog_3_method_8_code 1 = .ok (.sipush 1728, 3) := by decide +kernel
theorem d_X1_join_4 : decode prog_3_method_8_code 4 = .ok (.invokestatic 45, 3) := by decide +kernel
theorem d_X1_join_7 : decode prog_3_method_8_code 7 = .ok (.ifCond .eq 27, 3) := by decide +kernel
theorem d_X1_join_10 : decode prog_3_method_8_code 10 = .ok (.iload_n 2, 1) := by decide +kernel
theorem d_X1_join_11 : decode prog_3_method_8_code 11 = .ok (.sipush 1728, 3) := by decide +kernel
theorem d_X1_join_14 : decode prog_3_method_8_code 14 = .ok (.invokestatic 45, 3) := by decide +kernel
theorem d_X1_join_17 : decode prog_3_method_8_code 17 = .ok (.ifCond .eq 17, 3) := by decide +kernel
theorem d_X1_join_20 : decode prog_3_method_8_code 20 = .ok (.aload_n 0, 1) := by decide +kernel
theorem d_X1_join_21 : decode prog_3_method_8_code 21 = .ok (.getfield 11, 3) := by decide +kernel
theorem d_X1_join_24 : decode prog_3_method_8_code 24 = .ok (.iload_n 1, 1) := by decide +kernel
theorem d_X1_join_25 : decode prog_3_method_8_code 25 = .ok (.iload_n 2, 1) := by decide +kernel
theorem d_X1_join_26 : decode prog_3_method_8_code 26 = .ok (.iastore, 1) := by decide +kernel
theorem d_X1_join_27 : decode prog_3_method_8_code 27 = .ok (.aload_n 0, 1) := by decide +kernel
theorem d_X1_join_28 : decode prog_3_method_8_code 28 = .ok (.getfield 11, 3) := by decide +kernel
theorem d_X1_join_31 : decode prog_3_method_8_code 31 = .ok (.iload_n 2, 1) := by decide +kernel
theorem d_X1_join_32 : decode prog_3_method_8_code 32 = .ok (.iload_n 1, 1) := by decide +kernel
theorem d_X1_join_33 : decode prog_3_method_8_code 33 = .ok (.iastore, 1) := by decide +kernel
theorem d_X1_join_34 : decode prog_3_method_8_code 34 = .ok (.return_, 1) := by decide +kernel
theorem d_X1_stand_0 : decode prog_3_method_6_code 0 = .ok (.iload_n 1, 1) := by decide +kernel
theorem d_X1_stand_1 : decode prog_3_method_6_code 1 = .ok (.ifCond .lt 9, 3) := by decide +kernel
theorem d_X1_stand_4 : decode prog_3_method_6_code 4 = .ok (.iload_n 1, 1) := by decide +kernel
theorem d_X1_stand_5 : decode prog_3_method_6_code 5 = .ok (.bipush 60, 2) := by decide +kernel
theorem d_X1_stand_7 : decode prog_3_method_6_code 7 = .ok (.if_icmp .lt 5, 3) := by decide +kernel
theorem d_X1_stand_10 : decode prog_3_method_6_code 10 = .ok (.iconst (-1), 1) := by decide +kernel
theorem d_X1_stand_11 : decode prog_3_method_6_code 11 = .ok (.ireturn, 1) := by decide +kernel
theorem d_X1_stand_12 : decode prog_3_method_6_code 12 = .ok (.aload_n 0, 1) := by decide +kernel
theorem d_X1_stand_13 : decode prog_3_method_6_code 13 = .ok (.getfield 22, 3) := by decide +kernel
theorem d_X1_stand_16 : decode prog_3_method_6_code 16 = .ok (.iload_n 1, 1) := by decide +kernel
theorem d_X1_stand_17 : decode prog_3_method_6_code 17 = .ok (.dup2, 1) := by decide +kernel
theorem d_X1_stand_18 : decode prog_3_method_6_code 18 = .ok (.iaload, 1) := by decide +kernel
theorem d_X1_stand_19 : decode prog_3_method_6_code 19 = .ok (.iconst 1, 1) := by decide +kernel
theorem d_X1_stand_20 : decode prog_3_method_6_code 20 = .ok (.iadd, 1) := by decide +kernel
theorem d_X1_stand_21 : decode prog_3_method_6_code 21 = .ok (.iastore, 1) := by decide +kernel
theorem d_X1_stand_22 : decode prog_3_method_6_code 22 = .ok (.aload_n 0, 1) := by decide +kernel
theorem d_X1_stand_23 : decode prog_3_method_6_code 23 = .ok (.getfield 22, 3) := by decide +kernel
theorem d_X1_stand_26 : decode prog_3_method_6_code 26 = .ok (.iload_n 1, 1) := by decide +kernel
theorem d_X1_stand_27 : decode prog_3_method_6_code 27 = .ok (.iaload, 1) := by decide +kernel
theorem d_X1_stand_28 : decode prog_3_method_6_code 28 = .ok (.iconst 2, 1) := by decide +kernel
theorem d_X1_stand_29 : decode prog_3_method_6_code 29 = .ok (.if_icmp .gt 22, 3) := by decide +kernel
theorem d_X1_stand_32 : decode prog_3_method_6_code 32 = .ok (.sipush 1600, 3) := by decide +kernel
theorem d_X1_stand_35 : decode prog_3_method_6_code 35 = .ok (.iconst 2, 1) := by decide +kernel
theorem d_X1_stand_36 : decode prog_3_method_6_code 36 = .ok (.iload_n 1, 1) := by decide +kernel
theorem d_X1_stand_37 : decode prog_3_method_6_code 37 = .ok (.imul, 1) := by decide +kernel
theorem d_X1_stand_38 : decode prog_3_method_6_code 38 = .ok (.iadd, 1) := by decide +kernel
theorem d_X1_stand_39 : decode prog_3_method_6_code 39 = .ok (.aload_n 0, 1) := by decide +kernel
theorem d_X1_stand_40 : decode prog_3_method_6_code 40 = .ok (.getfield 22, 3) := by decide +kernel
theorem d_X1_stand_43 : decode prog_3_method_6_code 43 = .ok (.iload_n 1, 1) := by decide +kernel
theorem d_X1_stand_44 : decode prog_3_method_6_code 44 = .ok (.iaload, 1) := by decide +kernel
theorem d_X1_stand_45 : decode prog_3_method_6_code 45 = .ok (.iadd, 1) := by decide +kernel
theorem d_X1_stand_46 : decode prog_3_method_6_code 46 = .ok (.iconst 1, 1) := by decide +kernel
theorem d_X1_stand_47 : decode prog_3_method_6_code 47 = .ok (.isub, 1) := by decide +kernel
theorem d_X1_stand_48 : decode prog_3_method_6_code 48 = .ok (.goto 4, 3) := by decide +kernel
theorem d_X1_stand_51 : decode prog_3_method_6_code 51 = .ok (.iconst (-1), 1) := by decide +kernel
theorem d_X1_stand_52 : decode prog_3_method_6_code 52 = .ok (.ireturn, 1) := by decide +kernel
theorem d_X1_addEnds_0 : decode prog_3_method_9_code 0 = .ok (.iconst 0, 1) := by decide +kernel
theorem d_X1_addEnds_1 : decode prog_3_method_9_code 1 = .ok (.istore_n 1, 1) := by decide +kernel
theorem d_X1_addEnds_2 : decode prog_3_method_9_code 2 = .ok (.iload_n 1, 1) := by decide +kernel
theorem d_X1_addEnds_3 : decode prog_3_method_9_code 3 = .ok (.aload_n 0, 1) := by decide +kernel
theorem d_X1_addEnds_4 : decode prog_3_method_9_code 4 = .ok (.getfield 39, 3) := by decide +kernel
theorem d_X1_addEnds_7 : decode prog_3_method_9_code 7 = .ok (.if_icmp .ge 61, 3) := by decide +kernel
theorem d_X1_addEnds_10 : decode prog_3_method_9_code 10 = .ok (.iload_n 1, 1) := by decide +kernel
theorem d_X1_addEnds_11 : decode prog_3_method_9_code 11 = .ok (.bipush 60, 2) := by decide +kernel
theorem d_X1_addEnds_13 : decode prog_3_method_9_code 13 = .ok (.if_icmp .ge 55, 3) := by decide +kernel
theorem d_X1_addEnds_16 : decode prog_3_method_9_code 16 = .ok (.aload_n 0, 1) := by decide +kernel
theorem d_X1_addEnds_17 : decode prog_3_method_9_code 17 = .ok (.getfield 22, 3) := by decide +kernel
theorem d_X1_addEnds_20 : decode prog_3_method_9_code 20 = .ok (.iload_n 1, 1) := by decide +kernel
theorem d_X1_addEnds_21 : decode prog_3_method_9_code 21 = .ok (.iaload, 1) := by decide +kernel
theorem d_X1_addEnds_22 : decode prog_3_method_9_code 22 = .ok (.iconst 1, 1) := by decide +kernel
theorem d_X1_addEnds_23 : decode prog_3_method_9_code 23 = .ok (.if_icmp .ne 39, 3) := by decide +kernel
theorem d_X1_addEnds_26 : decode prog_3_method_9_code 26 = .ok (.aload_n 0, 1) := by decide +kernel
theorem d_X1_addEnds_27 : decode prog_3_method_9_code 27 = .ok (.getfield 42, 3) := by decide +kernel
theorem d_X1_addEnds_30 : decode prog_3_method_9_code 30 = .ok (.bipush 8, 2) := by decide +kernel
theorem d_X1_addEnds_32 : decode prog_3_method_9_code 32 = .ok (.if_icmp .ge 20, 3) := by decide +kernel
theorem d_X1_addEnds_35 : decode prog_3_method_9_code 35 = .ok (.aload_n 0, 1) := by decide +kernel
theorem d_X1_addEnds_36 : decode prog_3_method_9_code 36 = .ok (.sipush 1720, 3) := by decide +kernel
theorem d_X1_addEnds_39 : decode prog_3_method_9_code 39 = .ok (.aload_n 0, 1) := by decide +kernel
theorem d_X1_addEnds_40 : decode prog_3_method_9_code 40 = .ok (.getfield 42, 3) := by decide +kernel
theorem d_X1_addEnds_43 : decode prog_3_method_9_code 43 = .ok (.iadd, 1) := by decide +kernel
theorem d_X1_addEnds_44 : decode prog_3_method_9_code 44 = .ok (.aload_n 0, 1) := by decide +kernel
theorem d_X1_addEnds_45 : decode prog_3_method_9_code 45 = .ok (.iload_n 1, 1) := by decide +kernel
theorem d_X1_addEnds_46 : decode prog_3_method_9_code 46 = .ok (.invokevirtual 49, 3) := by decide +kernel
theorem d_X1_addEnds_49 : decode prog_3_method_9_code 49 = .ok (.invokevirtual 53, 3) := by decide +kernel
theorem d_X1_addEnds_52 : decode prog_3_method_9_code 52 = .ok (.aload_n 0, 1) := by decide +kernel
theorem d_X1_addEnds_53 : decode prog_3_method_9_code 53 = .ok (.dup, 1) := by decide +kernel
theorem d_X1_addEnds_54 : decode prog_3_method_9_code 54 = .ok (.getfield 42, 3) := by decide +kernel
theorem d_X1_addEnds_57 : decode prog_3_method_9_code 57 = .ok (.iconst 1, 1) := by decide +kernel
theorem d_X1_addEnds_58 : decode prog_3_method_9_code 58 = .ok (.iadd, 1) := by decide +kernel
theorem d_X1_addEnds_59 : decode prog_3_method_9_code 59 = .ok (.putfield 42, 3) := by decide +kernel
theorem d_X1_addEnds_62 : decode prog_3_method_9_code 62 = .ok (.iinc 1 1, 3) := by decide +kernel
theorem d_X1_addEnds_65 : decode prog_3_method_9_code 65 = .ok (.goto (-63), 3) := by decide +kernel
theorem d_X1_addEnds_68 : decode prog_3_method_9_code 68 = .ok (.return_, 1) := by decide +kernel
theorem d_X1_hasNameStanding_0 : decode prog_3_method_7_code 0 = .ok (.iconst 0, 1) := by decide +kernel
theorem d_X1_hasNameStanding_1 : decode prog_3_method_7_code 1 = .ok (.istore_n 3, 1) := by decide +kernel
theorem d_X1_hasNameStanding_2 : decode prog_3_method_7_code 2 = .ok (.iload_n 3, 1) := by decide +kernel
theorem d_X1_hasNameStanding_3 : decode prog_3_method_7_code 3 = .ok (.aload_n 0, 1) := by decide +kernel
theorem d_X1_hasNameStanding_4 : decode prog_3_method_7_code 4 = .ok (.getfield 39, 3) := by decide +kernel
theorem d_X1_hasNameStanding_7 : decode prog_3_method_7_code 7 = .ok (.if_icmp .ge 37, 3) := by decide +kernel
theorem d_X1_hasNameStanding_10 : decode prog_3_method_7_code 10 = .ok (.iload_n 3, 1) := by decide +kernel
theorem d_X1_hasNameStanding_11 : decode prog_3_method_7_code 11 = .ok (.bipush 60, 2) := by decide +kernel
theorem d_X1_hasNameStanding_13 : decode prog_3_method_7_code 13 = .ok (.if_icmp .ge 31, 3) := by decide +kernel
theorem d_X1_hasNameStanding_16 : decode prog_3_method_7_code 16 = .ok (.aload_n 0, 1) := by decide +kernel
theorem d_X1_hasNameStanding_17 : decode prog_3_method_7_code 17 = .ok (.getfield 22, 3) := by decide +kernel
theorem d_X1_hasNameStanding_20 : decode prog_3_method_7_code 20 = .ok (.iload_n 3, 1) := by decide +kernel
theorem d_X1_hasNameStanding_21 : decode prog_3_method_7_code 21 = .ok (.iaload, 1) := by decide +kernel
theorem d_X1_hasNameStanding_22 : decode prog_3_method_7_code 22 = .ok (.iload_n 1, 1) := by decide +kernel
theorem d_X1_hasNameStanding_23 : decode prog_3_method_7_code 23 = .ok (.if_icmp .lt 15, 3) := by decide +kernel
theorem d_X1_hasNameStanding_26 : decode prog_3_method_7_code 26 = .ok (.aload_n 0, 1) := by decide +kernel
theorem d_X1_hasNameStanding_27 : decode prog_3_method_7_code 27 = .ok (.getfield 22, 3) := by decide +kernel
theorem d_X1_hasNameStanding_30 : decode prog_3_method_7_code 30 = .ok (.iload_n 3, 1) := by decide +kernel
theorem d_X1_hasNameStanding_31 : decode prog_3_method_7_code 31 = .ok (.iaload, 1) := by decide +kernel
theorem d_X1_hasNameStanding_32 : decode prog_3_method_7_code 32 = .ok (.iload_n 2, 1) := by decide +kernel
theorem d_X1_hasNameStanding_33 : decode prog_3_method_7_code 33 = .ok (.if_icmp .gt 5, 3) := by decide +kernel
theorem d_X1_hasNameStanding_36 : decode prog_3_method_7_code 36 = .ok (.iconst 1, 1) := by decide +kernel
theorem d_X1_hasNameStanding_37 : decode prog_3_method_7_code 37 = .ok (.ireturn, 1) := by decide +kernel
theorem d_X1_hasNameStanding_38 : decode prog_3_method_7_code 38 = .ok (.iinc 3 1, 3) := by decide +kernel
theorem d_X1_hasNameStanding_41 : decode prog_3_method_7_code 41 = .ok (.goto (-39), 3) := by decide +kernel
theorem d_X1_hasNameStanding_44 : decode prog_3_method_7_code 44 = .ok (.iconst 0, 1) := by decide +kernel
theorem d_X1_hasNameStanding_45 : decode prog_3_method_7_code 45 = .ok (.ireturn, 1) := by decide +kernel
theorem d_X1_isStanding_0 : decode prog_3_method_11_code 0 = .ok (.iload_n 0, 1) := by decide +kernel
theorem d_X1_isStanding_1 : decode prog_3_method_11_code 1 = .ok (.sipush 1600, 3) := by decide +kernel
theorem d_X1_isStanding_4 : decode prog_3_method_11_code 4 = .ok (.if_icmp .lt 14, 3) := by decide +kernel
theorem d_X1_isStanding_7 : decode prog_3_method_11_code 7 = .ok (.iload_n 0, 1) := by decide +kernel
theorem d_X1_isStanding_8 : decode prog_3_method_11_code 8 = .ok (.sipush 1720, 3) := by decide +kernel
theorem d_X1_isStanding_11 : decode prog_3_method_11_code 11 = .ok (.if_icmp .ge 7, 3) := by decide +kernel
theorem d_X1_isStanding_14 : decode prog_3_method_11_code 14 = .ok (.iconst 1, 1) := by decide +kernel
theorem d_X1_isStanding_15 : decode prog_3_method_11_code 15 = .ok (.goto 4, 3) := by decide +kernel
theorem d_X1_isStanding_18 : decode prog_3_method_11_code 18 = .ok (.iconst 0, 1) := by decide +kernel
theorem d_X1_isStanding_19 : decode prog_3_method_11_code 19 = .ok (.ireturn, 1) := by decide +kernel
theorem d_X1_passName_0 : decode prog_3_method_13_code 0 = .ok (.iload_n 1, 1) := by decide +kernel
theorem d_X1_passName_1 : decode prog_3_method_13_code 1 = .ok (.sipush 1600, 3) := by decide +kernel
theorem d_X1_passName_4 : decode prog_3_method_13_code 4 = .ok (.isub, 1) := by decide +kernel
theorem d_X1_passName_5 : decode prog_3_method_13_code 5 = .ok (.istore_n 2, 1) := by decide +kernel
theorem d_X1_passName_6 : decode prog_3_method_13_code 6 = .ok (.iload_n 2, 1) := by decide +kernel
theorem d_X1_passName_7 : decode prog_3_method_13_code 7 = .ok (.ifCond .lt 9, 3) := by decide +kernel
theorem d_X1_passName_10 : decode prog_3_method_13_code 10 = .ok (.iload_n 2, 1) := by decide +kernel
theorem d_X1_passName_11 : decode prog_3_method_13_code 11 = .ok (.bipush 120, 2) := by decide +kernel
theorem d_X1_passName_13 : decode prog_3_method_13_code 13 = .ok (.if_icmp .lt 5, 3) := by decide +kernel
theorem d_X1_passName_16 : decode prog_3_method_13_code 16 = .ok (.iconst (-1), 1) := by decide +kernel
theorem d_X1_passName_17 : decode prog_3_method_13_code 17 = .ok (.ireturn, 1) := by decide +kernel
theorem d_X1_passName_18 : decode prog_3_method_13_code 18 = .ok (.aload_n 0, 1) := by decide +kernel
theorem d_X1_passName_19 : decode prog_3_method_13_code 19 = .ok (.getfield 25, 3) := by decide +kernel
theorem d_X1_passName_22 : decode prog_3_method_13_code 22 = .ok (.iload_n 2, 1) := by decide +kernel
theorem d_X1_passName_23 : decode prog_3_method_13_code 23 = .ok (.iconst 1, 1) := by decide +kernel
theorem d_X1_passName_24 : decode prog_3_method_13_code 24 = .ok (.ishr, 1) := by decide +kernel
theorem d_X1_passName_25 : decode prog_3_method_13_code 25 = .ok (.iconst 1, 1) := by decide +kernel
theorem d_X1_passName_26 : decode prog_3_method_13_code 26 = .ok (.bastore, 1) := by decide +kernel
theorem d_X1_passName_27 : decode prog_3_method_13_code 27 = .ok (.aload_n 0, 1) := by decide +kernel
theorem d_X1_passName_28 : decode prog_3_method_13_code 28 = .ok (.getfield 11, 3) := by decide +kernel
theorem d_X1_passName_31 : decode prog_3_method_13_code 31 = .ok (.sipush 1600, 3) := by decide +kernel
theorem d_X1_passName_34 : decode prog_3_method_13_code 34 = .ok (.iload_n 2, 1) := by decide +kernel
theorem d_X1_passName_35 : decode prog_3_method_13_code 35 = .ok (.iconst 1, 1) := by decide +kernel
theorem d_X1_passName_36 : decode prog_3_method_13_code 36 = .ok (.ixor, 1) := by decide +kernel
theorem d_X1_passName_37 : decode prog_3_method_13_code 37 = .ok (.iadd, 1) := by decide +kernel
theorem d_X1_passName_38 : decode prog_3_method_13_code 38 = .ok (.iaload, 1) := by decide +kernel
theorem d_X1_passName_39 : decode prog_3_method_13_code 39 = .ok (.ireturn, 1) := by decide +kernel
theorem d_X1_farCode_0 : decode prog_3_method_12_code 0 = .ok (.iload_n 1, 1) := by decide +kernel
theorem d_X1_farCode_1 : decode prog_3_method_12_code 1 = .ok (.sipush 1728, 3) := by decide +kernel
theorem d_X1_farCode_4 : decode prog_3_method_12_code 4 = .ok (.invokestatic 45, 3) := by decide +kernel
theorem d_X1_farCode_7 : decode prog_3_method_12_code 7 = .ok (.ifCond .eq 12, 3) := by decide +kernel
theorem d_X1_farCode_10 : decode prog_3_method_12_code 10 = .ok (.aload_n 0, 1) := by decide +kernel
theorem d_X1_farCode_11 : decode prog_3_method_12_code 11 = .ok (.getfield 11, 3) := by decide +kernel
theorem d_X1_farCode_14 : decode prog_3_method_12_code 14 = .ok (.iload_n 1, 1) := by decide +kernel
theorem d_X1_farCode_15 : decode prog_3_method_12_code 15 = .ok (.iaload, 1) := by decide +kernel
theorem d_X1_farCode_16 : decode prog_3_method_12_code 16 = .ok (.goto 4, 3) := by decide +kernel
theorem d_X1_farCode_19 : decode prog_3_method_12_code 19 = .ok (.iconst (-1), 1) := by decide +kernel
theorem d_X1_farCode_20 : decode prog_3_method_12_code 20 = .ok (.istore_n 2, 1) := by decide +kernel
theorem d_X1_farCode_21 : decode prog_3_method_12_code 21 = .ok (.iconst 0, 1) := by decide +kernel
theorem d_X1_farCode_22 : decode prog_3_method_12_code 22 = .ok (.istore_n 3, 1) := by decide +kernel
theorem d_X1_farCode_23 : decode prog_3_method_12_code 23 = .ok (.iload_n 3, 1) := by decide +kernel
theorem d_X1_farCode_24 : decode prog_3_method_12_code 24 = .ok (.bipush 60, 2) := by decide +kernel
theorem d_X1_farCode_26 : decode prog_3_method_12_code 26 = .ok (.if_icmp .ge 22, 3) := by decide +kernel
theorem d_X1_farCode_29 : decode prog_3_method_12_code 29 = .ok (.iload_n 2, 1) := by decide +kernel
theorem d_X1_farCode_30 : decode prog_3_method_12_code 30 = .ok (.invokestatic 57, 3) := by decide +kernel
theorem d_X1_farCode_33 : decode prog_3_method_12_code 33 = .ok (.ifCond .eq 15, 3) := by decide +kernel
theorem d_X1_farCode_36 : decode prog_3_method_12_code 36 = .ok (.aload_n 0, 1) := by decide +kernel
theorem d_X1_farCode_37 : decode prog_3_method_12_code 37 = .ok (.iload_n 2, 1) := by decide +kernel
theorem d_X1_farCode_38 : decode prog_3_method_12_code 38 = .ok (.invokevirtual 61, 3) := by decide +kernel
theorem d_X1_farCode_41 : decode prog_3_method_12_code 41 = .ok (.istore_n 2, 1) := by decide +kernel
theorem d_X1_farCode_42 : decode prog_3_method_12_code 42 = .ok (.iinc 3 1, 3) := by decide +kernel
theorem d_X1_farCode_45 : decode prog_3_method_12_code 45 = .ok (.goto (-22), 3) := by decide +kernel
theorem d_X1_farCode_48 : decode prog_3_method_12_code 48 = .ok (.iload_n 2, 1) := by decide +kernel
theorem d_X1_farCode_49 : decode prog_3_method_12_code 49 = .ok (.sipush 1720, 3) := by decide +kernel
theorem d_X1_farCode_52 : decode prog_3_method_12_code 52 = .ok (.if_icmp .lt 14, 3) := by decide +kernel
theorem d_X1_farCode_55 : decode prog_3_method_12_code 55 = .ok (.iload_n 2, 1) := by decide +kernel
theorem d_X1_farCode_56 : decode prog_3_method_12_code 56 = .ok (.sipush 1720, 3) := by decide +kernel
theorem d_X1_farCode_59 : decode prog_3_method_12_code 59 = .ok (.isub, 1) := by decide +kernel
theorem d_X1_farCode_60 : decode prog_3_method_12_code 60 = .ok (.invokestatic 64, 3) := by decide +kernel
theorem d_X1_farCode_63 : decode prog_3_method_12_code 63 = .ok (.goto 4, 3) := by decide +kernel
theorem d_X1_farCode_66 : decode prog_3_method_12_code 66 = .ok (.iload_n 2, 1) := by decide +kernel
theorem d_X1_farCode_67 : decode prog_3_method_12_code 67 = .ok (.ireturn, 1) := by decide +kernel
theorem d_X1_kindOf_0 : decode prog_3_method_4_code 0 = .ok (.iload_n 1, 1) := by decide +kernel
theorem d_X1_kindOf_1 : decode prog_3_method_4_code 1 = .ok (.ifCond .lt 27, 3) := by decide +kernel
theorem d_X1_kindOf_4 : decode prog_3_method_4_code 4 = .ok (.iload_n 1, 1) := by decide +kernel
theorem d_X1_kindOf_5 : decode prog_3_method_4_code 5 = .ok (.aload_n 0, 1) := by decide +kernel
theorem d_X1_kindOf_6 : decode prog_3_method_4_code 6 = .ok (.getfield 35, 3) := by decide +kernel
theorem d_X1_kindOf_9 : decode prog_3_method_4_code 9 = .ok (.if_icmp .ge 19, 3) := by decide +kernel
theorem d_X1_kindOf_12 : decode prog_3_method_4_code 12 = .ok (.iload_n 1, 1) := by decide +kernel
theorem d_X1_kindOf_13 : decode prog_3_method_4_code 13 = .ok (.sipush 200, 3) := by decide +kernel
theorem d_X1_kindOf_16 : decode prog_3_method_4_code 16 = .ok (.if_icmp .ge 12, 3) := by decide +kernel
theorem d_X1_kindOf_19 : decode prog_3_method_4_code 19 = .ok (.aload_n 0, 1) := by decide +kernel
theorem d_X1_kindOf_20 : decode prog_3_method_4_code 20 = .ok (.getfield 15, 3) := by decide +kernel
theorem d_X1_kindOf_23 : decode prog_3_method_4_code 23 = .ok (.iload_n 1, 1) := by decide +kernel
theorem d_X1_kindOf_24 : decode prog_3_method_4_code 24 = .ok (.iaload, 1) := by decide +kernel
theorem d_X1_kindOf_25 : decode prog_3_method_4_code 25 = .ok (.goto 4, 3) := by decide +kernel
theorem d_X1_kindOf_28 : decode prog_3_method_4_code 28 = .ok (.iconst (-1), 1) := by decide +kernel
theorem d_X1_kindOf_29 : decode prog_3_method_4_code 29 = .ok (.ireturn, 1) := by decide +kernel
theorem d_X6_slotKind_0 : decode prog_8_method_24_code 0 = .ok (.aload_n 0, 1) := by decide +kernel
theorem d_X6_slotKind_1 : decode prog_8_method_24_code 1 = .ok (.getfield 18, 3) := by decide +kernel
theorem d_X6_slotKind_4 : decode prog_8_method_24_code 4 = .ok (.iload_n 1, 1) := by decide +kernel
theorem d_X6_slotKind_5 : decode prog_8_method_24_code 5 = .ok (.iconst 4, 1) := by decide +kernel
theorem d_X6_slotKind_6 : decode prog_8_method_24_code 6 = .ok (.if_icmp .ge 7, 3) := by decide +kernel
theorem d_X6_slotKind_9 : decode prog_8_method_24_code 9 = .ok (.iconst 0, 1) := by decide +kernel
theorem d_X6_slotKind_10 : decode prog_8_method_24_code 10 = .ok (.goto 4, 3) := by decide +kernel
theorem d_X6_slotKind_13 : decode prog_8_method_24_code 13 = .ok (.iconst 1, 1) := by decide +kernel
theorem d_X6_slotKind_14 : decode prog_8_method_24_code 14 = .ok (.iaload, 1) := by decide +kernel
theorem d_X6_slotKind_15 : decode prog_8_method_24_code 15 = .ok (.ireturn, 1) := by decide +kernel
theorem d_X6_slotPort_0 : decode prog_8_method_25_code 0 = .ok (.iload_n 0, 1) := by decide +kernel
theorem d_X6_slotPort_1 : decode prog_8_method_25_code 1 = .ok (.iconst 4, 1) := by decide +kernel
theorem d_X6_slotPort_2 : decode prog_8_method_25_code 2 = .ok (.if_icmp .ge 7, 3) := by decide +kernel
theorem d_X6_slotPort_5 : decode prog_8_method_25_code 5 = .ok (.iload_n 0, 1) := by decide +kernel
theorem d_X6_slotPort_6 : decode prog_8_method_25_code 6 = .ok (.goto 6, 3) := by decide +kernel
theorem d_X6_slotPort_9 : decode prog_8_method_25_code 9 = .ok (.iload_n 0, 1) := by decide +kernel
theorem d_X6_slotPort_10 : decode prog_8_method_25_code 10 = .ok (.iconst 4, 1) := by decide +kernel
theorem d_X6_slotPort_11 : decode prog_8_method_25_code 11 = .ok (.isub, 1) := by decide +kernel
theorem d_X6_slotPort_12 : decode prog_8_method_25_code 12 = .ok (.iconst 1, 1) := by decide +kernel
theorem d_X6_slotPort_13 : decode prog_8_method_25_code 13 = .ok (.iadd, 1) := by decide +kernel
theorem d_X6_slotPort_14 : decode prog_8_method_25_code 14 = .ok (.ireturn, 1) := by decide +kernel
theorem d_X6_slotSort_0 : decode prog_8_method_27_code 0 = .ok (.aload_n 0, 1) := by decide +kernel
theorem d_X6_slotSort_1 : decode prog_8_method_27_code 1 = .ok (.getfield 32, 3) := by decide +kernel
theorem d_X6_slotSort_4 : decode prog_8_method_27_code 4 = .ok (.getfield 91, 3) := by decide +kernel
theorem d_X6_slotSort_7 : decode prog_8_method_27_code 7 = .ok (.aload_n 0, 1) := by decide +kernel
theorem d_X6_slotSort_8 : decode prog_8_method_27_code 8 = .ok (.iload_n 1, 1) := by decide +kernel
theorem d_X6_slotSort_9 : decode prog_8_method_27_code 9 = .ok (.invokevirtual 250, 3) := by decide +kernel
theorem d_X6_slotSort_12 : decode prog_8_method_27_code 12 = .ok (.iload_n 1, 1) := by decide +kernel
theorem d_X6_slotSort_13 : decode prog_8_method_27_code 13 = .ok (.invokestatic 253, 3) := by decide +kernel
theorem d_X6_slotSort_16 : decode prog_8_method_27_code 16 = .ok (.invokevirtual 225, 3) := by decide +kernel
theorem d_X6_slotSort_19 : decode prog_8_method_27_code 19 = .ok (.iconst (-1), 1) := by decide +kernel
theorem d_X6_slotSort_20 : decode prog_8_method_27_code 20 = .ok (.ixor, 1) := by decide +kernel
theorem d_X6_slotSort_21 : decode prog_8_method_27_code 21 = .ok (.ireturn, 1) := by decide +kernel
theorem d_X6_fits_0 : decode prog_8_method_23_code 0 = .ok (.iload_n 2, 1) := by decide +kernel
theorem d_X6_fits_1 : decode prog_8_method_23_code 1 = .ok (.ifCond .lt 40, 3) := by decide +kernel
theorem d_X6_fits_4 : decode prog_8_method_23_code 4 = .ok (.iload_n 1, 1) := by decide +kernel
theorem d_X6_fits_5 : decode prog_8_method_23_code 5 = .ok (.aload_n 0, 1) := by decide +kernel
theorem d_X6_fits_6 : decode prog_8_method_23_code 6 = .ok (.getfield 32, 3) := by decide +kernel
theorem d_X6_fits_9 : decode prog_8_method_23_code 9 = .ok (.getfield 91, 3) := by decide +kernel
theorem d_X6_fits_12 : decode prog_8_method_23_code 12 = .ok (.aload_n 0, 1) := by decide +kernel
theorem d_X6_fits_13 : decode prog_8_method_23_code 13 = .ok (.getfield 12, 3) := by decide +kernel
theorem d_X6_fits_16 : decode prog_8_method_23_code 16 = .ok (.iload_n 2, 1) := by decide +kernel
theorem d_X6_fits_17 : decode prog_8_method_23_code 17 = .ok (.invokestatic 241, 3) := by decide +kernel
theorem d_X6_fits_20 : decode prog_8_method_23_code 20 = .ok (.invokevirtual 222, 3) := by decide +kernel
theorem d_X6_fits_23 : decode prog_8_method_23_code 23 = .ok (.iload_n 2, 1) := by decide +kernel
theorem d_X6_fits_24 : decode prog_8_method_23_code 24 = .ok (.invokestatic 244, 3) := by decide +kernel
theorem d_X6_fits_27 : decode prog_8_method_23_code 27 = .ok (.invokevirtual 225, 3) := by decide +kernel
theorem d_X6_fits_30 : decode prog_8_method_23_code 30 = .ok (.iconst (-1), 1) := by decide +kernel
theorem d_X6_fits_31 : decode prog_8_method_23_code 31 = .ok (.ixor, 1) := by decide +kernel
theorem d_X6_fits_32 : decode prog_8_method_23_code 32 = .ok (.if_icmp .ne 7, 3) := by decide +kernel
theorem d_X6_fits_35 : decode prog_8_method_23_code 35 = .ok (.iconst 1, 1) := by decide +kernel
theorem d_X6_fits_36 : decode prog_8_method_23_code 36 = .ok (.goto 4, 3) := by decide +kernel
theorem d_X6_fits_39 : decode prog_8_method_23_code 39 = .ok (.iconst 0, 1) := by decide +kernel
theorem d_X6_fits_40 : decode prog_8_method_23_code 40 = .ok (.ireturn, 1) := by decide +kernel
theorem d_X6_fits_41 : decode prog_8_method_23_code 41 = .ok (.aload_n 0, 1) := by decide +kernel
theorem d_X6_fits_42 : decode prog_8_method_23_code 42 = .ok (.getfield 137, 3) := by decide +kernel
theorem d_X6_fits_45 : decode prog_8_method_23_code 45 = .ok (.ifCond .eq 17, 3) := by decide +kernel
theorem d_X6_fits_48 : decode prog_8_method_23_code 48 = .ok (.iload_n 1, 1) := by decide +kernel
theorem d_X6_fits_49 : decode prog_8_method_23_code 49 = .ok (.aload_n 0, 1) := by decide +kernel
theorem d_X6_fits_50 : decode prog_8_method_23_code 50 = .ok (.iload_n 2, 1) := by decide +kernel
theorem d_X6_fits_51 : decode prog_8_method_23_code 51 = .ok (.invokestatic 247, 3) := by decide +kernel
theorem d_X6_fits_54 : decode prog_8_method_23_code 54 = .ok (.invokevirtual 238, 3) := by decide +kernel
theorem d_X6_fits_57 : decode prog_8_method_23_code 57 = .ok (.iconst (-1), 1) := by decide +kernel
theorem d_X6_fits_58 : decode prog_8_method_23_code 58 = .ok (.ixor, 1) := by decide +kernel
theorem d_X6_fits_59 : decode prog_8_method_23_code 59 = .ok (.if_icmp .ne 7, 3) := by decide +kernel
theorem d_X6_fits_62 : decode prog_8_method_23_code 62 = .ok (.iconst 1, 1) := by decide +kernel
theorem d_X6_fits_63 : decode prog_8_method_23_code 63 = .ok (.goto 4, 3) := by decide +kernel
theorem d_X6_fits_66 : decode prog_8_method_23_code 66 = .ok (.iconst 0, 1) := by decide +kernel
theorem d_X6_fits_67 : decode prog_8_method_23_code 67 = .ok (.ireturn, 1) := by decide +kernel
theorem d_X6_agentsFit_0 : decode prog_8_method_21_code 0 = .ok (.iconst 0, 1) := by decide +kernel
theorem d_X6_agentsFit_1 : decode prog_8_method_21_code 1 = .ok (.istore_n 1, 1) := by decide +kernel
theorem d_X6_agentsFit_2 : decode prog_8_method_21_code 2 = .ok (.iload_n 1, 1) := by decide +kernel
theorem d_X6_agentsFit_3 : decode prog_8_method_21_code 3 = .ok (.aload_n 0, 1) := by decide +kernel
theorem d_X6_agentsFit_4 : decode prog_8_method_21_code 4 = .ok (.getfield 12, 3) := by decide +kernel
theorem d_X6_agentsFit_7 : decode prog_8_method_21_code 7 = .ok (.getfield 176, 3) := by decide +kernel
theorem d_X6_agentsFit_10 : decode prog_8_method_21_code 10 = .ok (.if_icmp .ge 81, 3) := by decide +kernel
theorem d_X6_agentsFit_13 : decode prog_8_method_21_code 13 = .ok (.aload_n 0, 1) := by decide +kernel
theorem d_X6_agentsFit_14 : decode prog_8_method_21_code 14 = .ok (.getfield 32, 3) := by decide +kernel
theorem d_X6_agentsFit_17 : decode prog_8_method_21_code 17 = .ok (.getfield 91, 3) := by decide +kernel
theorem d_X6_agentsFit_20 : decode prog_8_method_21_code 20 = .ok (.aload_n 0, 1) := by decide +kernel
theorem d_X6_agentsFit_21 : decode prog_8_method_21_code 21 = .ok (.getfield 12, 3) := by decide +kernel
theorem d_X6_agentsFit_24 : decode prog_8_method_21_code 24 = .ok (.iload_n 1, 1) := by decide +kernel
theorem d_X6_agentsFit_25 : decode prog_8_method_21_code 25 = .ok (.invokevirtual 222, 3) := by decide +kernel
theorem d_X6_agentsFit_28 : decode prog_8_method_21_code 28 = .ok (.invokevirtual 167, 3) := by decide +kernel
theorem d_X6_agentsFit_31 : decode prog_8_method_21_code 31 = .ok (.istore_n 2, 1) := by decide +kernel
theorem d_X6_agentsFit_32 : decode prog_8_method_21_code 32 = .ok (.iconst 0, 1) := by decide +kernel
theorem d_X6_agentsFit_33 : decode prog_8_method_21_code 33 = .ok (.istore_n 3, 1) := by decide +kernel
theorem d_X6_agentsFit_34 : decode prog_8_method_21_code 34 = .ok (.iload_n 3, 1) := by decide +kernel
theorem d_X6_agentsFit_35 : decode prog_8_method_21_code 35 = .ok (.iload_n 2, 1) := by decide +kernel
theorem d_X6_agentsFit_36 : decode prog_8_method_21_code 36 = .ok (.if_icmp .ge 49, 3) := by decide +kernel
theorem d_X6_agentsFit_39 : decode prog_8_method_21_code 39 = .ok (.aload_n 0, 1) := by decide +kernel
theorem d_X6_agentsFit_40 : decode prog_8_method_21_code 40 = .ok (.aload_n 0, 1) := by decide +kernel
theorem d_X6_agentsFit_41 : decode prog_8_method_21_code 41 = .ok (.getfield 32, 3) := by decide +kernel
theorem d_X6_agentsFit_44 : decode prog_8_method_21_code 44 = .ok (.getfield 91, 3) := by decide +kernel
theorem d_X6_agentsFit_47 : decode prog_8_method_21_code 47 = .ok (.aload_n 0, 1) := by decide +kernel
theorem d_X6_agentsFit_48 : decode prog_8_method_21_code 48 = .ok (.getfield 12, 3) := by decide +kernel
theorem d_X6_agentsFit_51 : decode prog_8_method_21_code 51 = .ok (.iload_n 1, 1) := by decide +kernel
theorem d_X6_agentsFit_52 : decode prog_8_method_21_code 52 = .ok (.invokevirtual 222, 3) := by decide +kernel
theorem d_X6_agentsFit_55 : decode prog_8_method_21_code 55 = .ok (.iload_n 3, 1) := by decide +kernel
theorem d_X6_agentsFit_56 : decode prog_8_method_21_code 56 = .ok (.invokevirtual 225, 3) := by decide +kernel
theorem d_X6_agentsFit_59 : decode prog_8_method_21_code 59 = .ok (.aload_n 0, 1) := by decide +kernel
theorem d_X6_agentsFit_60 : decode prog_8_method_21_code 60 = .ok (.getfield 12, 3) := by decide +kernel
theorem d_X6_agentsFit_63 : decode prog_8_method_21_code 63 = .ok (.iload_n 1, 1) := by decide +kernel
theorem d_X6_agentsFit_64 : decode prog_8_method_21_code 64 = .ok (.iload_n 3, 1) := by decide +kernel
theorem d_X6_agentsFit_65 : decode prog_8_method_21_code 65 = .ok (.invokestatic 186, 3) := by decide +kernel
theorem d_X6_agentsFit_68 : decode prog_8_method_21_code 68 = .ok (.invokevirtual 228, 3) := by decide +kernel
theorem d_X6_agentsFit_71 : decode prog_8_method_21_code 71 = .ok (.invokevirtual 231, 3) := by decide +kernel
theorem d_X6_agentsFit_74 : decode prog_8_method_21_code 74 = .ok (.ifCond .ne 5, 3) := by decide +kernel
theorem d_X6_agentsFit_77 : decode prog_8_method_21_code 77 = .ok (.iconst 0, 1) := by decide +kernel
theorem d_X6_agentsFit_78 : decode prog_8_method_21_code 78 = .ok (.ireturn, 1) := by decide +kernel
theorem d_X6_agentsFit_79 : decode prog_8_method_21_code 79 = .ok (.iinc 3 1, 3) := by decide +kernel
theorem d_X6_agentsFit_82 : decode prog_8_method_21_code 82 = .ok (.goto (-48), 3) := by decide +kernel
theorem d_X6_agentsFit_85 : decode prog_8_method_21_code 85 = .ok (.iinc 1 1, 3) := by decide +kernel
theorem d_X6_agentsFit_88 : decode prog_8_method_21_code 88 = .ok (.goto (-86), 3) := by decide +kernel
theorem d_X6_agentsFit_91 : decode prog_8_method_21_code 91 = .ok (.iconst 1, 1) := by decide +kernel
theorem d_X6_agentsFit_92 : decode prog_8_method_21_code 92 = .ok (.ireturn, 1) := by decide +kernel
theorem d_X1_countRings_0 : decode prog_3_method_14_code 0 = .ok (.iconst 0, 1) := by decide +kernel
theorem d_X1_countRings_1 : decode prog_3_method_14_code 1 = .ok (.istore_n 1, 1) := by decide +kernel
theorem d_X1_countRings_2 : decode prog_3_method_14_code 2 = .ok (.iconst 0, 1) := by decide +kernel
theorem d_X1_countRings_3 : decode prog_3_method_14_code 3 = .ok (.istore_n 2, 1) := by decide +kernel
theorem d_X1_countRings_4 : decode prog_3_method_14_code 4 = .ok (.iload_n 2, 1) := by decide +kernel
theorem d_X1_countRings_5 : decode prog_3_method_14_code 5 = .ok (.aload_n 0, 1) := by decide +kernel
theorem d_X1_countRings_6 : decode prog_3_method_14_code 6 = .ok (.getfield 39, 3) := by decide +kernel
theorem d_X1_countRings_9 : decode prog_3_method_14_code 9 = .ok (.if_icmp .ge 39, 3) := by decide +kernel
theorem d_X1_countRings_12 : decode prog_3_method_14_code 12 = .ok (.iload_n 2, 1) := by decide +kernel
theorem d_X1_countRings_13 : decode prog_3_method_14_code 13 = .ok (.bipush 60, 2) := by decide +kernel
theorem d_X1_countRings_15 : decode prog_3_method_14_code 15 = .ok (.if_icmp .ge 33, 3) := by decide +kernel
theorem d_X1_countRings_18 : decode prog_3_method_14_code 18 = .ok (.aload_n 0, 1) := by decide +kernel
theorem d_X1_countRings_19 : decode prog_3_method_14_code 19 = .ok (.getfield 25, 3) := by decide +kernel
theorem d_X1_countRings_22 : decode prog_3_method_14_code 22 = .ok (.iload_n 2, 1) := by decide +kernel
theorem d_X1_countRings_23 : decode prog_3_method_14_code 23 = .ok (.baload, 1) := by decide +kernel
theorem d_X1_countRings_24 : decode prog_3_method_14_code 24 = .ok (.ifCond .ne 18, 3) := by decide +kernel
theorem d_X1_countRings_27 : decode prog_3_method_14_code 27 = .ok (.iinc 1 1, 3) := by decide +kernel
theorem d_X1_countRings_30 : decode prog_3_method_14_code 30 = .ok (.aload_n 0, 1) := by decide +kernel
theorem d_X1_countRings_31 : decode prog_3_method_14_code 31 = .ok (.sipush 1600, 3) := by decide +kernel
theorem d_X1_countRings_34 : decode prog_3_method_14_code 34 = .ok (.iconst 2, 1) := by decide +kernel
theorem d_X1_countRings_35 : decode prog_3_method_14_code 35 = .ok (.iload_n 2, 1) := by decide +kernel
theorem d_X1_countRings_36 : decode prog_3_method_14_code 36 = .ok (.imul, 1) := by decide +kernel
theorem d_X1_countRings_37 : decode prog_3_method_14_code 37 = .ok (.iadd, 1) := by decide +kernel
theorem d_X1_countRings_38 : decode prog_3_method_14_code 38 = .ok (.invokevirtual 67, 3) := by decide +kernel
theorem d_X1_countRings_41 : decode prog_3_method_14_code 41 = .ok (.pop, 1) := by decide +kernel
theorem d_X1_countRings_42 : decode prog_3_method_14_code 42 = .ok (.iinc 2 1, 3) := by decide +kernel
theorem d_X1_countRings_45 : decode prog_3_method_14_code 45 = .ok (.goto (-41), 3) := by decide +kernel
theorem d_X1_countRings_48 : decode prog_3_method_14_code 48 = .ok (.iload_n 1, 1) := by decide +kernel
theorem d_X1_countRings_49 : decode prog_3_method_14_code 49 = .ok (.ireturn, 1) := by decide +kernel
theorem d_X1_outerPoint_0 : decode prog_3_method_10_code 0 = .ok (.iload_n 0, 1) := by decide +kernel
theorem d_X1_outerPoint_1 : decode prog_3_method_10_code 1 = .ok (.bipush 8, 2) := by decide +kernel
theorem d_X1_outerPoint_3 : decode prog_3_method_10_code 3 = .ok (.invokestatic 45, 3) := by decide +kernel
theorem d_X1_outerPoint_6 : decode prog_3_method_10_code 6 = .ok (.ifCond .eq 11, 3) := by decide +kernel
theorem d_X1_outerPoint_9 : decode prog_3_method_10_code 9 = .ok (.sipush 1720, 3) := by decide +kernel
theorem d_X1_outerPoint_12 : decode prog_3_method_10_code 12 = .ok (.iload_n 0, 1) := by decide +kernel
theorem d_X1_outerPoint_13 : decode prog_3_method_10_code 13 = .ok (.iadd, 1) := by decide +kernel
theorem d_X1_outerPoint_14 : decode prog_3_method_10_code 14 = .ok (.goto 4, 3) := by decide +kernel
theorem d_X1_outerPoint_17 : decode prog_3_method_10_code 17 = .ok (.iconst (-1), 1) := by decide +kernel
theorem d_X1_outerPoint_18 : decode prog_3_method_10_code 18 = .ok (.ireturn, 1) := by decide +kernel
theorem d_X4_add_0 : decode prog_6_method_8_code 0 = .ok (.iload_n 2, 1) := by decide +kernel
theorem d_X4_add_1 : decode prog_6_method_8_code 1 = .ok (.iconst 0, 1) := by decide +kernel
theorem d_X4_add_2 : decode prog_6_method_8_code 2 = .ok (.invokestatic 50, 3) := by decide +kernel
theorem d_X4_add_5 : decode prog_6_method_8_code 5 = .ok (.istore_n 3, 1) := by decide +kernel
theorem d_X4_add_6 : decode prog_6_method_8_code 6 = .ok (.iload_n 3, 1) := by decide +kernel
theorem d_X4_add_7 : decode prog_6_method_8_code 7 = .ok (.sipush 400, 3) := by decide +kernel
theorem d_X4_add_10 : decode prog_6_method_8_code 10 = .ok (.if_icmp .ge 52, 3) := by decide +kernel
theorem d_X4_add_13 : decode prog_6_method_8_code 13 = .ok (.aload_n 0, 1) := by decide +kernel
theorem d_X4_add_14 : decode prog_6_method_8_code 14 = .ok (.getfield 9, 3) := by decide +kernel
theorem d_X4_add_17 : decode prog_6_method_8_code 17 = .ok (.iload_n 3, 1) := by decide +kernel
theorem d_X4_add_18 : decode prog_6_method_8_code 18 = .ok (.iaload, 1) := by decide +kernel
theorem d_X4_add_19 : decode prog_6_method_8_code 19 = .ok (.iconst (-1), 1) := by decide +kernel
theorem d_X4_add_20 : decode prog_6_method_8_code 20 = .ok (.if_icmp .ne 36, 3) := by decide +kernel
theorem d_X4_add_23 : decode prog_6_method_8_code 23 = .ok (.aload_n 0, 1) := by decide +kernel
theorem d_X4_add_24 : decode prog_6_method_8_code 24 = .ok (.getfield 9, 3) := by decide +kernel
theorem d_X4_add_27 : decode prog_6_method_8_code 27 = .ok (.iload_n 3, 1) := by decide +kernel
theorem d_X4_add_28 : decode prog_6_method_8_code 28 = .ok (.iload_n 1, 1) := by decide +kernel
theorem d_X4_add_29 : decode prog_6_method_8_code 29 = .ok (.iastore, 1) := by decide +kernel
theorem d_X4_add_30 : decode prog_6_method_8_code 30 = .ok (.aload_n 0, 1) := by decide +kernel
theorem d_X4_add_31 : decode prog_6_method_8_code 31 = .ok (.dup, 1) := by decide +kernel
theorem d_X4_add_32 : decode prog_6_method_8_code 32 = .ok (.getfield 27, 3) := by decide +kernel
theorem d_X4_add_35 : decode prog_6_method_8_code 35 = .ok (.iconst 1, 1) := by decide +kernel
theorem d_X4_add_36 : decode prog_6_method_8_code 36 = .ok (.iadd, 1) := by decide +kernel
theorem d_X4_add_37 : decode prog_6_method_8_code 37 = .ok (.putfield 27, 3) := by decide +kernel
theorem d_X4_add_40 : decode prog_6_method_8_code 40 = .ok (.aload_n 0, 1) := by decide +kernel
theorem d_X4_add_41 : decode prog_6_method_8_code 41 = .ok (.aload_n 0, 1) := by decide +kernel
theorem d_X4_add_42 : decode prog_6_method_8_code 42 = .ok (.getfield 37, 3) := by decide +kernel
theorem d_X4_add_45 : decode prog_6_method_8_code 45 = .ok (.iload_n 3, 1) := by decide +kernel
theorem d_X4_add_46 : decode prog_6_method_8_code 46 = .ok (.iconst 1, 1) := by decide +kernel
theorem d_X4_add_47 : decode prog_6_method_8_code 47 = .ok (.iadd, 1) := by decide +kernel
theorem d_X4_add_48 : decode prog_6_method_8_code 48 = .ok (.invokestatic 50, 3) := by decide +kernel
theorem d_X4_add_51 : decode prog_6_method_8_code 51 = .ok (.putfield 37, 3) := by decide +kernel
theorem d_X4_add_54 : decode prog_6_method_8_code 54 = .ok (.iload_n 3, 1) := by decide +kernel
theorem d_X4_add_55 : decode prog_6_method_8_code 55 = .ok (.ireturn, 1) := by decide +kernel
theorem d_X4_add_56 : decode prog_6_method_8_code 56 = .ok (.iinc 3 1, 3) := by decide +kernel
theorem d_X4_add_59 : decode prog_6_method_8_code 59 = .ok (.goto (-53), 3) := by decide +kernel
theorem d_X4_add_62 : decode prog_6_method_8_code 62 = .ok (.iconst (-1), 1) := by decide +kernel
theorem d_X4_add_63 : decode prog_6_method_8_code 63 = .ok (.ireturn, 1) := by decide +kernel
theorem d_X4_setWire_0 : decode prog_6_method_11_code 0 = .ok (.iload_n 1, 1) := by decide +kernel
theorem d_X4_setWire_1 : decode prog_6_method_11_code 1 = .ok (.aload_n 0, 1) := by decide +kernel
theorem d_X4_setWire_2 : decode prog_6_method_11_code 2 = .ok (.getfield 15, 3) := by decide +kernel
theorem d_X4_setWire_5 : decode prog_6_method_11_code 5 = .ok (.arraylength, 1) := by decide +kernel
theorem d_X4_setWire_6 : decode prog_6_method_11_code 6 = .ok (.invokestatic 46, 3) := by decide +kernel
theorem d_X4_setWire_9 : decode prog_6_method_11_code 9 = .ok (.ifCond .eq 13, 3) := by decide +kernel
theorem d_X4_setWire_12 : decode prog_6_method_11_code 12 = .ok (.aload_n 0, 1) := by decide +kernel
theorem d_X4_setWire_13 : decode prog_6_method_11_code 13 = .ok (.getfield 15, 3) := by decide +kernel
theorem d_X4_setWire_16 : decode prog_6_method_11_code 16 = .ok (.iload_n 1, 1) := by decide +kernel
theorem d_X4_setWire_17 : decode prog_6_method_11_code 17 = .ok (.iload_n 2, 1) := by decide +kernel
theorem d_X4_setWire_18 : decode prog_6_method_11_code 18 = .ok (.iastore, 1) := by decide +kernel
theorem d_X4_setWire_19 : decode prog_6_method_11_code 19 = .ok (.goto 28, 3) := by decide +kernel
theorem d_X4_setWire_22 : decode prog_6_method_11_code 22 = .ok (.iload_n 1, 1) := by decide +kernel
theorem d_X4_setWire_23 : decode prog_6_method_11_code 23 = .ok (.invokestatic 63, 3) := by decide +kernel
theorem d_X4_setWire_26 : decode prog_6_method_11_code 26 = .ok (.aload_n 0, 1) := by decide +kernel
theorem d_X4_setWire_27 : decode prog_6_method_11_code 27 = .ok (.getfield 18, 3) := by decide +kernel
theorem d_X4_setWire_30 : decode prog_6_method_11_code 30 = .ok (.arraylength, 1) := by decide +kernel
theorem d_X4_setWire_31 : decode prog_6_method_11_code 31 = .ok (.invokestatic 46, 3) := by decide +kernel
theorem d_X4_setWire_34 : decode prog_6_method_11_code 34 = .ok (.ifCond .eq 13, 3) := by decide +kernel
theorem d_X4_setWire_37 : decode prog_6_method_11_code 37 = .ok (.aload_n 0, 1) := by decide +kernel
theorem d_X4_setWire_38 : decode prog_6_method_11_code 38 = .ok (.getfield 18, 3) := by decide +kernel
theorem d_X4_setWire_41 : decode prog_6_method_11_code 41 = .ok (.iload_n 1, 1) := by decide +kernel
theorem d_X4_setWire_42 : decode prog_6_method_11_code 42 = .ok (.invokestatic 63, 3) := by decide +kernel
theorem d_X4_setWire_45 : decode prog_6_method_11_code 45 = .ok (.iload_n 2, 1) := by decide +kernel
theorem d_X4_setWire_46 : decode prog_6_method_11_code 46 = .ok (.iastore, 1) := by decide +kernel
theorem d_X4_setWire_47 : decode prog_6_method_11_code 47 = .ok (.return_, 1) := by decide +kernel
theorem d_X6_storeNet_0 : decode prog_8_method_29_code 0 = .ok (.aload_n 0, 1) := by decide +kernel
theorem d_X6_storeNet_1 : decode prog_8_method_29_code 1 = .ok (.getfield 32, 3) := by decide +kernel
theorem d_X6_storeNet_4 : decode prog_8_method_29_code 4 = .ok (.getfield 274, 3) := by decide +kernel
theorem d_X6_storeNet_7 : decode prog_8_method_29_code 7 = .ok (.astore_n 1, 1) := by decide +kernel
theorem d_X6_storeNet_8 : decode prog_8_method_29_code 8 = .ok (.iconst 0, 1) := by decide +kernel
theorem d_X6_storeNet_9 : decode prog_8_method_29_code 9 = .ok (.istore_n 2, 1) := by decide +kernel
theorem d_X6_storeNet_10 : decode prog_8_method_29_code 10 = .ok (.iload_n 2, 1) := by decide +kernel
theorem d_X6_storeNet_11 : decode prog_8_method_29_code 11 = .ok (.aload_n 0, 1) := by decide +kernel
theorem d_X6_storeNet_12 : decode prog_8_method_29_code 12 = .ok (.getfield 12, 3) := by decide +kernel
theorem d_X6_storeNet_15 : decode prog_8_method_29_code 15 = .ok (.getfield 176, 3) := by decide +kernel
theorem d_X6_storeNet_18 : decode prog_8_method_29_code 18 = .ok (.if_icmp .ge 80, 3) := by decide +kernel
theorem d_X6_storeNet_21 : decode prog_8_method_29_code 21 = .ok (.aload_n 1, 1) := by decide +kernel
theorem d_X6_storeNet_22 : decode prog_8_method_29_code 22 = .ok (.aload_n 0, 1) := by decide +kernel
theorem d_X6_storeNet_23 : decode prog_8_method_29_code 23 = .ok (.getfield 12, 3) := by decide +kernel
theorem d_X6_storeNet_26 : decode prog_8_method_29_code 26 = .ok (.iload_n 2, 1) := by decide +kernel
theorem d_X6_storeNet_27 : decode prog_8_method_29_code 27 = .ok (.invokevirtual 222, 3) := by decide +kernel
theorem d_X6_storeNet_30 : decode prog_8_method_29_code 30 = .ok (.iload_n 2, 1) := by decide +kernel
theorem d_X6_storeNet_31 : decode prog_8_method_29_code 31 = .ok (.invokevirtual 278, 3) := by decide +kernel
theorem d_X6_storeNet_34 : decode prog_8_method_29_code 34 = .ok (.pop, 1) := by decide +kernel
theorem d_X6_storeNet_35 : decode prog_8_method_29_code 35 = .ok (.aload_n 0, 1) := by decide +kernel
theorem d_X6_storeNet_36 : decode prog_8_method_29_code 36 = .ok (.getfield 32, 3) := by decide +kernel
theorem d_X6_storeNet_39 : decode prog_8_method_29_code 39 = .ok (.getfield 91, 3) := by decide +kernel
theorem d_X6_storeNet_42 : decode prog_8_method_29_code 42 = .ok (.aload_n 0, 1) := by decide +kernel
theorem d_X6_storeNet_43 : decode prog_8_method_29_code 43 = .ok (.getfield 12, 3) := by decide +kernel
theorem d_X6_storeNet_46 : decode prog_8_method_29_code 46 = .ok (.iload_n 2, 1) := by decide +kernel
theorem d_X6_storeNet_47 : decode prog_8_method_29_code 47 = .ok (.invokevirtual 222, 3) := by decide +kernel
theorem d_X6_storeNet_50 : decode prog_8_method_29_code 50 = .ok (.invokevirtual 167, 3) := by decide +kernel
theorem d_X6_storeNet_53 : decode prog_8_method_29_code 53 = .ok (.istore_n 3, 1) := by decide +kernel
theorem d_X6_storeNet_54 : decode prog_8_method_29_code 54 = .ok (.iconst 0, 1) := by decide +kernel
theorem d_X6_storeNet_55 : decode prog_8_method_29_code 55 = .ok (.istore 4, 2) := by decide +kernel
theorem d_X6_storeNet_57 : decode prog_8_method_29_code 57 = .ok (.iload 4, 2) := by decide +kernel
theorem d_X6_storeNet_59 : decode prog_8_method_29_code 59 = .ok (.iload_n 3, 1) := by decide +kernel
theorem d_X6_storeNet_60 : decode prog_8_method_29_code 60 = .ok (.if_icmp .ge 32, 3) := by decide +kernel
theorem d_X6_storeNet_63 : decode prog_8_method_29_code 63 = .ok (.aload_n 1, 1) := by decide +kernel
theorem d_X6_storeNet_64 : decode prog_8_method_29_code 64 = .ok (.iload_n 2, 1) := by decide +kernel
theorem d_X6_storeNet_65 : decode prog_8_method_29_code 65 = .ok (.iload 4, 2) := by decide +kernel
theorem d_X6_storeNet_67 : decode prog_8_method_29_code 67 = .ok (.invokestatic 186, 3) := by decide +kernel
theorem d_X6_storeNet_70 : decode prog_8_method_29_code 70 = .ok (.aload_n 0, 1) := by decide +kernel
theorem d_X6_storeNet_71 : decode prog_8_method_29_code 71 = .ok (.getfield 12, 3) := by decide +kernel
theorem d_X6_storeNet_74 : decode prog_8_method_29_code 74 = .ok (.iload_n 2, 1) := by decide +kernel
theorem d_X6_storeNet_75 : decode prog_8_method_29_code 75 = .ok (.iload 4, 2) := by decide +kernel
theorem d_X6_storeNet_77 : decode prog_8_method_29_code 77 = .ok (.invokestatic 186, 3) := by decide +kernel
theorem d_X6_storeNet_80 : decode prog_8_method_29_code 80 = .ok (.invokevirtual 228, 3) := by decide +kernel
theorem d_X6_storeNet_83 : decode prog_8_method_29_code 83 = .ok (.invokevirtual 281, 3) := by decide +kernel
theorem d_X6_storeNet_86 : decode prog_8_method_29_code 86 = .ok (.iinc 4 1, 3) := by decide +kernel
theorem d_X6_storeNet_89 : decode prog_8_method_29_code 89 = .ok (.goto (-32), 3) := by decide +kernel
theorem d_X6_storeNet_92 : decode prog_8_method_29_code 92 = .ok (.iinc 2 1, 3) := by decide +kernel
theorem d_X6_storeNet_95 : decode prog_8_method_29_code 95 = .ok (.goto (-85), 3) := by decide +kernel
theorem d_X6_storeNet_98 : decode prog_8_method_29_code 98 = .ok (.aload_n 1, 1) := by decide +kernel
theorem d_X6_storeNet_99 : decode prog_8_method_29_code 99 = .ok (.aload_n 0, 1) := by decide +kernel
theorem d_X6_storeNet_100 : decode prog_8_method_29_code 100 = .ok (.getfield 12, 3) := by decide +kernel
theorem d_X6_storeNet_103 : decode prog_8_method_29_code 103 = .ok (.getfield 216, 3) := by decide +kernel
theorem d_X6_storeNet_106 : decode prog_8_method_29_code 106 = .ok (.putfield 283, 3) := by decide +kernel
theorem d_X6_storeNet_109 : decode prog_8_method_29_code 109 = .ok (.iconst 0, 1) := by decide +kernel
theorem d_X6_storeNet_110 : decode prog_8_method_29_code 110 = .ok (.istore_n 2, 1) := by decide +kernel
theorem d_X6_storeNet_111 : decode prog_8_method_29_code 111 = .ok (.iload_n 2, 1) := by decide +kernel
theorem d_X6_storeNet_112 : decode prog_8_method_29_code 112 = .ok (.aload_n 0, 1) := by decide +kernel
theorem d_X6_storeNet_113 : decode prog_8_method_29_code 113 = .ok (.getfield 12, 3) := by decide +kernel
theorem d_X6_storeNet_116 : decode prog_8_method_29_code 116 = .ok (.getfield 216, 3) := by decide +kernel
theorem d_X6_storeNet_119 : decode prog_8_method_29_code 119 = .ok (.if_icmp .ge 28, 3) := by decide +kernel
theorem d_X6_storeNet_122 : decode prog_8_method_29_code 122 = .ok (.aload_n 1, 1) := by decide +kernel
theorem d_X6_storeNet_123 : decode prog_8_method_29_code 123 = .ok (.iload_n 2, 1) := by decide +kernel
theorem d_X6_storeNet_124 : decode prog_8_method_29_code 124 = .ok (.invokestatic 264, 3) := by decide +kernel
theorem d_X6_storeNet_127 : decode prog_8_method_29_code 127 = .ok (.aload_n 0, 1) := by decide +kernel
theorem d_X6_storeNet_128 : decode prog_8_method_29_code 128 = .ok (.getfield 12, 3) := by decide +kernel
theorem d_X6_storeNet_131 : decode prog_8_method_29_code 131 = .ok (.iload_n 2, 1) := by decide +kernel
theorem d_X6_storeNet_132 : decode prog_8_method_29_code 132 = .ok (.invokestatic 160, 3) := by decide +kernel
theorem d_X6_storeNet_135 : decode prog_8_method_29_code 135 = .ok (.invokevirtual 228, 3) := by decide +kernel
theorem d_X6_storeNet_138 : decode prog_8_method_29_code 138 = .ok (.invokevirtual 281, 3) := by decide +kernel
theorem d_X6_storeNet_141 : decode prog_8_method_29_code 141 = .ok (.iinc 2 1, 3) := by decide +kernel
theorem d_X6_storeNet_144 : decode prog_8_method_29_code 144 = .ok (.goto (-33), 3) := by decide +kernel
theorem d_X6_storeNet_147 : decode prog_8_method_29_code 147 = .ok (.aload_n 1, 1) := by decide +kernel
theorem d_X6_storeNet_148 : decode prog_8_method_29_code 148 = .ok (.aload_n 0, 1) := by decide +kernel
theorem d_X6_storeNet_149 : decode prog_8_method_29_code 149 = .ok (.getfield 12, 3) := by decide +kernel
theorem d_X6_storeNet_152 : decode prog_8_method_29_code 152 = .ok (.invokevirtual 267, 3) := by decide +kernel
theorem d_X6_storeNet_155 : decode prog_8_method_29_code 155 = .ok (.putfield 284, 3) := by decide +kernel
theorem d_X6_storeNet_158 : decode prog_8_method_29_code 158 = .ok (.return_, 1) := by decide +kernel
theorem d_X6_endNet_0 : decode prog_8_method_20_code 0 = .ok (.aload_n 0, 1) := by decide +kernel
theorem d_X6_endNet_1 : decode prog_8_method_20_code 1 = .ok (.getfield 12, 3) := by decide +kernel
theorem d_X6_endNet_4 : decode prog_8_method_20_code 4 = .ok (.invokevirtual 213, 3) := by decide +kernel
theorem d_X6_endNet_7 : decode prog_8_method_20_code 7 = .ok (.aload_n 0, 1) := by decide +kernel
theorem d_X6_endNet_8 : decode prog_8_method_20_code 8 = .ok (.getfield 25, 3) := by decide +kernel
theorem d_X6_endNet_11 : decode prog_8_method_20_code 11 = .ok (.getfield 53, 3) := by decide +kernel
theorem d_X6_endNet_14 : decode prog_8_method_20_code 14 = .ok (.bipush 59, 2) := by decide +kernel
theorem d_X6_endNet_16 : decode prog_8_method_20_code 16 = .ok (.if_icmp .eq 10, 3) := by decide +kernel
theorem d_X6_endNet_19 : decode prog_8_method_20_code 19 = .ok (.aload_n 0, 1) := by decide +kernel
theorem d_X6_endNet_20 : decode prog_8_method_20_code 20 = .ok (.invokevirtual 75, 3) := by decide +kernel
theorem d_X6_endNet_23 : decode prog_8_method_20_code 23 = .ok (.goto 56, 3) := by decide +kernel
theorem d_X6_endNet_26 : decode prog_8_method_20_code 26 = .ok (.aload_n 0, 1) := by decide +kernel
theorem d_X6_endNet_27 : decode prog_8_method_20_code 27 = .ok (.getfield 12, 3) := by decide +kernel
theorem d_X6_endNet_30 : decode prog_8_method_20_code 30 = .ok (.iconst 3, 1) := by decide +kernel
theorem d_X6_endNet_31 : decode prog_8_method_20_code 31 = .ok (.sipush 4000, 3) := by decide +kernel
theorem d_X6_endNet_34 : decode prog_8_method_20_code 34 = .ok (.invokevirtual 198, 3) := by decide +kernel
theorem d_X6_endNet_37 : decode prog_8_method_20_code 37 = .ok (.ifCond .ne 22, 3) := by decide +kernel
theorem d_X6_endNet_40 : decode prog_8_method_20_code 40 = .ok (.aload_n 0, 1) := by decide +kernel
theorem d_X6_endNet_41 : decode prog_8_method_20_code 41 = .ok (.getfield 12, 3) := by decide +kernel
theorem d_X6_endNet_44 : decode prog_8_method_20_code 44 = .ok (.getfield 216, 3) := by decide +kernel
theorem d_X6_endNet_47 : decode prog_8_method_20_code 47 = .ok (.bipush 8, 2) := by decide +kernel
theorem d_X6_endNet_49 : decode prog_8_method_20_code 49 = .ok (.if_icmp .gt 10, 3) := by decide +kernel
theorem d_X6_endNet_52 : decode prog_8_method_20_code 52 = .ok (.aload_n 0, 1) := by decide +kernel
theorem d_X6_endNet_53 : decode prog_8_method_20_code 53 = .ok (.invokevirtual 202, 3) := by decide +kernel
theorem d_X6_endNet_56 : decode prog_8_method_20_code 56 = .ok (.ifCond .ne 12, 3) := by decide +kernel
theorem d_X6_endNet_59 : decode prog_8_method_20_code 59 = .ok (.aload_n 0, 1) := by decide +kernel
theorem d_X6_endNet_60 : decode prog_8_method_20_code 60 = .ok (.bipush 7, 2) := by decide +kernel
theorem d_X6_endNet_62 : decode prog_8_method_20_code 62 = .ok (.invokevirtual 101, 3) := by decide +kernel
theorem d_X6_endNet_65 : decode prog_8_method_20_code 65 = .ok (.goto 14, 3) := by decide +kernel
theorem d_X6_endNet_68 : decode prog_8_method_20_code 68 = .ok (.aload_n 0, 1) := by decide +kernel
theorem d_X6_endNet_69 : decode prog_8_method_20_code 69 = .ok (.invokevirtual 219, 3) := by decide +kernel
theorem d_X6_endNet_72 : decode prog_8_method_20_code 72 = .ok (.aload_n 0, 1) := by decide +kernel
theorem d_X6_endNet_73 : decode prog_8_method_20_code 73 = .ok (.getfield 25, 3) := by decide +kernel
theorem d_X6_endNet_76 : decode prog_8_method_20_code 76 = .ok (.invokevirtual 88, 3) := by decide +kernel
theorem d_X6_endNet_79 : decode prog_8_method_20_code 79 = .ok (.return_, 1) := by decide +kernel
theorem d_X1_addAgent_0 : decode prog_3_method_3_code 0 = .ok (.aload_n 0, 1) := by decide +kernel
theorem d_X1_addAgent_1 : decode prog_3_method_3_code 1 = .ok (.getfield 35, 3) := by decide +kernel
theorem d_X1_addAgent_4 : decode prog_3_method_3_code 4 = .ok (.sipush 200, 3) := by decide +kernel
theorem d_X1_addAgent_7 : decode prog_3_method_3_code 7 = .ok (.if_icmp .ge 23, 3) := by decide +kernel
theorem d_X1_addAgent_10 : decode prog_3_method_3_code 10 = .ok (.aload_n 0, 1) := by decide +kernel
theorem d_X1_addAgent_11 : decode prog_3_method_3_code 11 = .ok (.getfield 15, 3) := by decide +kernel
theorem d_X1_addAgent_14 : decode prog_3_method_3_code 14 = .ok (.aload_n 0, 1) := by decide +kernel
theorem d_X1_addAgent_15 : decode prog_3_method_3_code 15 = .ok (.getfield 35, 3) := by decide +kernel
theorem d_X1_addAgent_18 : decode prog_3_method_3_code 18 = .ok (.iload_n 1, 1) := by decide +kernel
theorem d_X1_addAgent_19 : decode prog_3_method_3_code 19 = .ok (.iastore, 1) := by decide +kernel
theorem d_X1_addAgent_20 : decode prog_3_method_3_code 20 = .ok (.aload_n 0, 1) := by decide +kernel
theorem d_X1_addAgent_21 : decode prog_3_method_3_code 21 = .ok (.dup, 1) := by decide +kernel
theorem d_X1_addAgent_22 : decode prog_3_method_3_code 22 = .ok (.getfield 35, 3) := by decide +kernel
theorem d_X1_addAgent_25 : decode prog_3_method_3_code 25 = .ok (.iconst 1, 1) := by decide +kernel
theorem d_X1_addAgent_26 : decode prog_3_method_3_code 26 = .ok (.iadd, 1) := by decide +kernel
theorem d_X1_addAgent_27 : decode prog_3_method_3_code 27 = .ok (.putfield 35, 3) := by decide +kernel
theorem d_X1_addAgent_30 : decode prog_3_method_3_code 30 = .ok (.aload_n 0, 1) := by decide +kernel
theorem d_X1_addAgent_31 : decode prog_3_method_3_code 31 = .ok (.getfield 35, 3) := by decide +kernel
theorem d_X1_addAgent_34 : decode prog_3_method_3_code 34 = .ok (.iconst 1, 1) := by decide +kernel
theorem d_X1_addAgent_35 : decode prog_3_method_3_code 35 = .ok (.isub, 1) := by decide +kernel
theorem d_X1_addAgent_36 : decode prog_3_method_3_code 36 = .ok (.ireturn, 1) := by decide +kernel
theorem d_X6_askBracket_0 : decode prog_8_method_13_code 0 = .ok (.aload_n 0, 1) := by decide +kernel
theorem d_X6_askBracket_1 : decode prog_8_method_13_code 1 = .ok (.getfield 47, 3) := by decide +kernel
theorem d_X6_askBracket_4 : decode prog_8_method_13_code 4 = .ok (.ifCond .ne 30, 3) := by decide +kernel
theorem d_X6_askBracket_7 : decode prog_8_method_13_code 7 = .ok (.iload_n 2, 1) := by decide +kernel
theorem d_X6_askBracket_8 : decode prog_8_method_13_code 8 = .ok (.aload_n 0, 1) := by decide +kernel
theorem d_X6_askBracket_9 : decode prog_8_method_13_code 9 = .ok (.getfield 32, 3) := by decide +kernel
theorem d_X6_askBracket_12 : decode prog_8_method_13_code 12 = .ok (.getfield 91, 3) := by decide +kernel
theorem d_X6_askBracket_15 : decode prog_8_method_13_code 15 = .ok (.iload_n 1, 1) := by decide +kernel
theorem d_X6_askBracket_16 : decode prog_8_method_13_code 16 = .ok (.invokevirtual 167, 3) := by decide +kernel
theorem d_X6_askBracket_19 : decode prog_8_method_13_code 19 = .ok (.iconst 1, 1) := by decide +kernel
theorem d_X6_askBracket_20 : decode prog_8_method_13_code 20 = .ok (.isub, 1) := by decide +kernel
theorem d_X6_askBracket_21 : decode prog_8_method_13_code 21 = .ok (.if_icmp .eq 13, 3) := by decide +kernel
theorem d_X6_askBracket_24 : decode prog_8_method_13_code 24 = .ok (.aload_n 0, 1) := by decide +kernel
theorem d_X6_askBracket_25 : decode prog_8_method_13_code 25 = .ok (.iconst 5, 1) := by decide +kernel
theorem d_X6_askBracket_26 : decode prog_8_method_13_code 26 = .ok (.putfield 47, 3) := by decide +kernel
theorem d_X6_askBracket_29 : decode prog_8_method_13_code 29 = .ok (.aload_n 0, 1) := by decide +kernel
theorem d_X6_askBracket_30 : decode prog_8_method_13_code 30 = .ok (.iload_n 3, 1) := by decide +kernel
theorem d_X6_askBracket_31 : decode prog_8_method_13_code 31 = .ok (.putfield 36, 3) := by decide +kernel
theorem d_X6_askBracket_34 : decode prog_8_method_13_code 34 = .ok (.return_, 1) := by decide +kernel
theorem d_X1_nameNumber_0 : decode prog_3_method_5_code 0 = .ok (.iconst 0, 1) := by decide +kernel
theorem d_X1_nameNumber_1 : decode prog_3_method_5_code 1 = .ok (.istore_n 3, 1) := by decide +kernel
theorem d_X1_nameNumber_2 : decode prog_3_method_5_code 2 = .ok (.iload_n 3, 1) := by decide +kernel
theorem d_X1_nameNumber_3 : decode prog_3_method_5_code 3 = .ok (.aload_n 0, 1) := by decide +kernel
theorem d_X1_nameNumber_4 : decode prog_3_method_5_code 4 = .ok (.getfield 39, 3) := by decide +kernel
theorem d_X1_nameNumber_7 : decode prog_3_method_5_code 7 = .ok (.if_icmp .ge 28, 3) := by decide +kernel
theorem d_X1_nameNumber_10 : decode prog_3_method_5_code 10 = .ok (.iload_n 3, 1) := by decide +kernel
theorem d_X1_nameNumber_11 : decode prog_3_method_5_code 11 = .ok (.bipush 60, 2) := by decide +kernel
theorem d_X1_nameNumber_13 : decode prog_3_method_5_code 13 = .ok (.if_icmp .ge 22, 3) := by decide +kernel
theorem d_X1_nameNumber_16 : decode prog_3_method_5_code 16 = .ok (.aload_n 0, 1) := by decide +kernel
theorem d_X1_nameNumber_17 : decode prog_3_method_5_code 17 = .ok (.getfield 18, 3) := by decide +kernel
theorem d_X1_nameNumber_20 : decode prog_3_method_5_code 20 = .ok (.iload_n 3, 1) := by decide +kernel
theorem d_X1_nameNumber_21 : decode prog_3_method_5_code 21 = .ok (.laload, 1) := by decide +kernel
theorem d_X1_nameNumber_22 : decode prog_3_method_5_code 22 = .ok (.lload_n 1, 1) := by decide +kernel
theorem d_X1_nameNumber_23 : decode prog_3_method_5_code 23 = .ok (.lcmp, 1) := by decide +kernel
theorem d_X1_nameNumber_24 : decode prog_3_method_5_code 24 = .ok (.ifCond .ne 5, 3) := by decide +kernel
theorem d_X1_nameNumber_27 : decode prog_3_method_5_code 27 = .ok (.iload_n 3, 1) := by decide +kernel
theorem d_X1_nameNumber_28 : decode prog_3_method_5_code 28 = .ok (.ireturn, 1) := by decide +kernel
theorem d_X1_nameNumber_29 : decode prog_3_method_5_code 29 = .ok (.iinc 3 1, 3) := by decide +kernel
theorem d_X1_nameNumber_32 : decode prog_3_method_5_code 32 = .ok (.goto (-30), 3) := by decide +kernel
theorem d_X1_nameNumber_35 : decode prog_3_method_5_code 35 = .ok (.aload_n 0, 1) := by decide +kernel
theorem d_X1_nameNumber_36 : decode prog_3_method_5_code 36 = .ok (.getfield 39, 3) := by decide +kernel
theorem d_X1_nameNumber_39 : decode prog_3_method_5_code 39 = .ok (.bipush 60, 2) := by decide +kernel
theorem d_X1_nameNumber_41 : decode prog_3_method_5_code 41 = .ok (.if_icmp .lt 5, 3) := by decide +kernel
theorem d_X1_nameNumber_44 : decode prog_3_method_5_code 44 = .ok (.iconst (-1), 1) := by decide +kernel
theorem d_X1_nameNumber_45 : decode prog_3_method_5_code 45 = .ok (.ireturn, 1) := by decide +kernel
theorem d_X1_nameNumber_46 : decode prog_3_method_5_code 46 = .ok (.aload_n 0, 1) := by decide +kernel
theorem d_X1_nameNumber_47 : decode prog_3_method_5_code 47 = .ok (.getfield 18, 3) := by decide +kernel
theorem d_X1_nameNumber_50 : decode prog_3_method_5_code 50 = .ok (.aload_n 0, 1) := by decide +kernel
theorem d_X1_nameNumber_51 : decode prog_3_method_5_code 51 = .ok (.getfield 39, 3) := by decide +kernel
theorem d_X1_nameNumber_54 : decode prog_3_method_5_code 54 = .ok (.lload_n 1, 1) := by decide +kernel
theorem d_X1_nameNumber_55 : decode prog_3_method_5_code 55 = .ok (.lastore, 1) := by decide +kernel
theorem d_X1_nameNumber_56 : decode prog_3_method_5_code 56 = .ok (.aload_n 0, 1) := by decide +kernel
theorem d_X1_nameNumber_57 : decode prog_3_method_5_code 57 = .ok (.getfield 22, 3) := by decide +kernel
theorem d_X1_nameNumber_60 : decode prog_3_method_5_code 60 = .ok (.aload_n 0, 1) := by decide +kernel
theorem d_X1_nameNumber_61 : decode prog_3_method_5_code 61 = .ok (.getfield 39, 3) := by decide +kernel
theorem d_X1_nameNumber_64 : decode prog_3_method_5_code 64 = .ok (.iconst 0, 1) := by decide +kernel
theorem d_X1_nameNumber_65 : decode prog_3_method_5_code 65 = .ok (.iastore, 1) := by decide +kernel
theorem d_X1_nameNumber_66 : decode prog_3_method_5_code 66 = .ok (.aload_n 0, 1) := by decide +kernel
theorem d_X1_nameNumber_67 : decode prog_3_method_5_code 67 = .ok (.getfield 25, 3) := by decide +kernel
theorem d_X1_nameNumber_70 : decode prog_3_method_5_code 70 = .ok (.aload_n 0, 1) := by decide +kernel
theorem d_X1_nameNumber_71 : decode prog_3_method_5_code 71 = .ok (.getfield 39, 3) := by decide +kernel
theorem d_X1_nameNumber_74 : decode prog_3_method_5_code 74 = .ok (.iconst 0, 1) := by decide +kernel
theorem d_X1_nameNumber_75 : decode prog_3_method_5_code 75 = .ok (.bastore, 1) := by decide +kernel
theorem d_X1_nameNumber_76 : decode prog_3_method_5_code 76 = .ok (.aload_n 0, 1) := by decide +kernel
theorem d_X1_nameNumber_77 : decode prog_3_method_5_code 77 = .ok (.dup, 1) := by decide +kernel
theorem d_X1_nameNumber_78 : decode prog_3_method_5_code 78 = .ok (.getfield 39, 3) := by decide +kernel
theorem d_X1_nameNumber_81 : decode prog_3_method_5_code 81 = .ok (.iconst 1, 1) := by decide +kernel
theorem d_X1_nameNumber_82 : decode prog_3_method_5_code 82 = .ok (.iadd, 1) := by decide +kernel
theorem d_X1_nameNumber_83 : decode prog_3_method_5_code 83 = .ok (.putfield 39, 3) := by decide +kernel
theorem d_X1_nameNumber_86 : decode prog_3_method_5_code 86 = .ok (.aload_n 0, 1) := by decide +kernel
theorem d_X1_nameNumber_87 : decode prog_3_method_5_code 87 = .ok (.getfield 39, 3) := by decide +kernel
theorem d_X1_nameNumber_90 : decode prog_3_method_5_code 90 = .ok (.iconst 1, 1) := by decide +kernel
theorem d_X1_nameNumber_91 : decode prog_3_method_5_code 91 = .ok (.isub, 1) := by decide +kernel
theorem d_X1_nameNumber_92 : decode prog_3_method_5_code 92 = .ok (.ireturn, 1) := by decide +kernel
theorem d_X6_readName_0 : decode prog_8_method_18_code 0 = .ok (.iload_n 1, 1) := by decide +kernel
theorem d_X6_readName_1 : decode prog_8_method_18_code 1 = .ok (.bipush 12, 2) := by decide +kernel
theorem d_X6_readName_3 : decode prog_8_method_18_code 3 = .ok (.if_icmp .lt 7, 3) := by decide +kernel
theorem d_X6_readName_6 : decode prog_8_method_18_code 6 = .ok (.iconst (-1), 1) := by decide +kernel
theorem d_X6_readName_7 : decode prog_8_method_18_code 7 = .ok (.goto 17, 3) := by decide +kernel
theorem d_X6_readName_10 : decode prog_8_method_18_code 10 = .ok (.aload_n 0, 1) := by decide +kernel
theorem d_X6_readName_11 : decode prog_8_method_18_code 11 = .ok (.getfield 12, 3) := by decide +kernel
theorem d_X6_readName_14 : decode prog_8_method_18_code 14 = .ok (.aload_n 0, 1) := by decide +kernel
theorem d_X6_readName_15 : decode prog_8_method_18_code 15 = .ok (.getfield 25, 3) := by decide +kernel
theorem d_X6_readName_18 : decode prog_8_method_18_code 18 = .ok (.getfield 81, 3) := by decide +kernel
theorem d_X6_readName_21 : decode prog_8_method_18_code 21 = .ok (.invokevirtual 189, 3) := by decide +kernel
theorem d_X6_readName_24 : decode prog_8_method_18_code 24 = .ok (.istore_n 2, 1) := by decide +kernel
theorem d_X6_readName_25 : decode prog_8_method_18_code 25 = .ok (.iload_n 2, 1) := by decide +kernel
theorem d_X6_readName_26 : decode prog_8_method_18_code 26 = .ok (.iconst (-1), 1) := by decide +kernel
theorem d_X6_readName_27 : decode prog_8_method_18_code 27 = .ok (.if_icmp .ne 10, 3) := by decide +kernel
theorem d_X6_readName_30 : decode prog_8_method_18_code 30 = .ok (.aload_n 0, 1) := by decide +kernel
theorem d_X6_readName_31 : decode prog_8_method_18_code 31 = .ok (.iconst 4, 1) := by decide +kernel
theorem d_X6_readName_32 : decode prog_8_method_18_code 32 = .ok (.invokevirtual 101, 3) := by decide +kernel
theorem d_X6_readName_35 : decode prog_8_method_18_code 35 = .ok (.iconst (-1), 1) := by decide +kernel
theorem d_X6_readName_36 : decode prog_8_method_18_code 36 = .ok (.ireturn, 1) := by decide +kernel
theorem d_X6_readName_37 : decode prog_8_method_18_code 37 = .ok (.aload_n 0, 1) := by decide +kernel
theorem d_X6_readName_38 : decode prog_8_method_18_code 38 = .ok (.getfield 25, 3) := by decide +kernel
theorem d_X6_readName_41 : decode prog_8_method_18_code 41 = .ok (.invokevirtual 88, 3) := by decide +kernel
theorem d_X6_readName_44 : decode prog_8_method_18_code 44 = .ok (.aload_n 0, 1) := by decide +kernel
theorem d_X6_readName_45 : decode prog_8_method_18_code 45 = .ok (.getfield 12, 3) := by decide +kernel
theorem d_X6_readName_48 : decode prog_8_method_18_code 48 = .ok (.iload_n 2, 1) := by decide +kernel
theorem d_X6_readName_49 : decode prog_8_method_18_code 49 = .ok (.invokevirtual 192, 3) := by decide +kernel
theorem d_X6_readName_52 : decode prog_8_method_18_code 52 = .ok (.ireturn, 1) := by decide +kernel
theorem d_X6_readBracket_0 : decode prog_8_method_17_code 0 = .ok (.iconst 0, 1) := by decide +kernel
theorem d_X6_readBracket_1 : decode prog_8_method_17_code 1 = .ok (.istore_n 3, 1) := by decide +kernel
theorem d_X6_readBracket_2 : decode prog_8_method_17_code 2 = .ok (.aload_n 0, 1) := by decide +kernel
theorem d_X6_readBracket_3 : decode prog_8_method_17_code 3 = .ok (.getfield 25, 3) := by decide +kernel
theorem d_X6_readBracket_6 : decode prog_8_method_17_code 6 = .ok (.invokevirtual 88, 3) := by decide +kernel
theorem d_X6_readBracket_9 : decode prog_8_method_17_code 9 = .ok (.aload_n 0, 1) := by decide +kernel
theorem d_X6_readBracket_10 : decode prog_8_method_17_code 10 = .ok (.iload_n 2, 1) := by decide +kernel
theorem d_X6_readBracket_11 : decode prog_8_method_17_code 11 = .ok (.iconst 1, 1) := by decide +kernel
theorem d_X6_readBracket_12 : decode prog_8_method_17_code 12 = .ok (.iadd, 1) := by decide +kernel
theorem d_X6_readBracket_13 : decode prog_8_method_17_code 13 = .ok (.invokevirtual 173, 3) := by decide +kernel
theorem d_X6_readBracket_16 : decode prog_8_method_17_code 16 = .ok (.istore 4, 2) := by decide +kernel
theorem d_X6_readBracket_18 : decode prog_8_method_17_code 18 = .ok (.iinc 3 1, 3) := by decide +kernel
theorem d_X6_readBracket_21 : decode prog_8_method_17_code 21 = .ok (.iload_n 3, 1) := by decide +kernel
theorem d_X6_readBracket_22 : decode prog_8_method_17_code 22 = .ok (.iconst 5, 1) := by decide +kernel
theorem d_X6_readBracket_23 : decode prog_8_method_17_code 23 = .ok (.if_icmp .ge 17, 3) := by decide +kernel
theorem d_X6_readBracket_26 : decode prog_8_method_17_code 26 = .ok (.aload_n 0, 1) := by decide +kernel
theorem d_X6_readBracket_27 : decode prog_8_method_17_code 27 = .ok (.getfield 12, 3) := by decide +kernel
theorem d_X6_readBracket_30 : decode prog_8_method_17_code 30 = .ok (.iload_n 1, 1) := by decide +kernel
theorem d_X6_readBracket_31 : decode prog_8_method_17_code 31 = .ok (.iload_n 3, 1) := by decide +kernel
theorem d_X6_readBracket_32 : decode prog_8_method_17_code 32 = .ok (.invokestatic 186, 3) := by decide +kernel
theorem d_X6_readBracket_35 : decode prog_8_method_17_code 35 = .ok (.iload 4, 2) := by decide +kernel
theorem d_X6_readBracket_37 : decode prog_8_method_17_code 37 = .ok (.invokevirtual 163, 3) := by decide +kernel
theorem d_X6_readBracket_40 : decode prog_8_method_17_code 40 = .ok (.aload_n 0, 1) := by decide +kernel
theorem d_X6_readBracket_41 : decode prog_8_method_17_code 41 = .ok (.getfield 47, 3) := by decide +kernel
theorem d_X6_readBracket_44 : decode prog_8_method_17_code 44 = .ok (.ifCond .ne 22, 3) := by decide +kernel
theorem d_X6_readBracket_47 : decode prog_8_method_17_code 47 = .ok (.aload_n 0, 1) := by decide +kernel
theorem d_X6_readBracket_48 : decode prog_8_method_17_code 48 = .ok (.getfield 25, 3) := by decide +kernel
theorem d_X6_readBracket_51 : decode prog_8_method_17_code 51 = .ok (.getfield 53, 3) := by decide +kernel
theorem d_X6_readBracket_54 : decode prog_8_method_17_code 54 = .ok (.bipush 44, 2) := by decide +kernel
theorem d_X6_readBracket_56 : decode prog_8_method_17_code 56 = .ok (.if_icmp .ne 10, 3) := by decide +kernel
theorem d_X6_readBracket_59 : decode prog_8_method_17_code 59 = .ok (.iload_n 3, 1) := by decide +kernel
theorem d_X6_readBracket_60 : decode prog_8_method_17_code 60 = .ok (.sipush 4000, 3) := by decide +kernel
theorem d_X6_readBracket_63 : decode prog_8_method_17_code 63 = .ok (.if_icmp .lt (-61), 3) := by decide +kernel
theorem d_X6_readBracket_66 : decode prog_8_method_17_code 66 = .ok (.aload_n 0, 1) := by decide +kernel
theorem d_X6_readBracket_67 : decode prog_8_method_17_code 67 = .ok (.getfield 47, 3) := by decide +kernel
theorem d_X6_readBracket_70 : decode prog_8_method_17_code 70 = .ok (.ifCond .ne 9, 3) := by decide +kernel
theorem d_X6_readBracket_73 : decode prog_8_method_17_code 73 = .ok (.aload_n 0, 1) := by decide +kernel
theorem d_X6_readBracket_74 : decode prog_8_method_17_code 74 = .ok (.bipush 41, 2) := by decide +kernel
theorem d_X6_readBracket_76 : decode prog_8_method_17_code 76 = .ok (.invokevirtual 119, 3) := by decide +kernel
theorem d_X6_readBracket_79 : decode prog_8_method_17_code 79 = .ok (.iload_n 3, 1) := by decide +kernel
theorem d_X6_readBracket_80 : decode prog_8_method_17_code 80 = .ok (.ireturn, 1) := by decide +kernel
theorem d_X6_readTerm_0 : decode prog_8_method_16_code 0 = .ok (.aload_n 0, 1) := by decide +kernel
theorem d_X6_readTerm_1 : decode prog_8_method_16_code 1 = .ok (.getfield 25, 3) := by decide +kernel
theorem d_X6_readTerm_4 : decode prog_8_method_16_code 4 = .ok (.getfield 53, 3) := by decide +kernel
theorem d_X6_readTerm_7 : decode prog_8_method_16_code 7 = .ok (.iconst 2, 1) := by decide +kernel
theorem d_X6_readTerm_8 : decode prog_8_method_16_code 8 = .ok (.if_icmp .ne 9, 3) := by decide +kernel
theorem d_X6_readTerm_11 : decode prog_8_method_16_code 11 = .ok (.aload_n 0, 1) := by decide +kernel
theorem d_X6_readTerm_12 : decode prog_8_method_16_code 12 = .ok (.iload_n 1, 1) := by decide +kernel
theorem d_X6_readTerm_13 : decode prog_8_method_16_code 13 = .ok (.invokevirtual 157, 3) := by decide +kernel
theorem d_X6_readTerm_16 : decode prog_8_method_16_code 16 = .ok (.ireturn, 1) := by decide +kernel
theorem d_X6_readTerm_17 : decode prog_8_method_16_code 17 = .ok (.aload_n 0, 1) := by decide +kernel
theorem d_X6_readTerm_18 : decode prog_8_method_16_code 18 = .ok (.getfield 25, 3) := by decide +kernel
theorem d_X6_readTerm_21 : decode prog_8_method_16_code 21 = .ok (.getfield 53, 3) := by decide +kernel
theorem d_X6_readTerm_24 : decode prog_8_method_16_code 24 = .ok (.iconst 3, 1) := by decide +kernel
theorem d_X6_readTerm_25 : decode prog_8_method_16_code 25 = .ok (.if_icmp .ne 23, 3) := by decide +kernel
theorem d_X6_readTerm_28 : decode prog_8_method_16_code 28 = .ok (.aload_n 0, 1) := by decide +kernel
theorem d_X6_readTerm_29 : decode prog_8_method_16_code 29 = .ok (.getfield 32, 3) := by decide +kernel
theorem d_X6_readTerm_32 : decode prog_8_method_16_code 32 = .ok (.getfield 91, 3) := by decide +kernel
theorem d_X6_readTerm_35 : decode prog_8_method_16_code 35 = .ok (.aload_n 0, 1) := by decide +kernel
theorem d_X6_readTerm_36 : decode prog_8_method_16_code 36 = .ok (.getfield 25, 3) := by decide +kernel
theorem d_X6_readTerm_39 : decode prog_8_method_16_code 39 = .ok (.getfield 81, 3) := by decide +kernel
theorem d_X6_readTerm_42 : decode prog_8_method_16_code 42 = .ok (.invokevirtual 95, 3) := by decide +kernel
theorem d_X6_readTerm_45 : decode prog_8_method_16_code 45 = .ok (.goto 4, 3) := by decide +kernel
theorem d_X6_readTerm_48 : decode prog_8_method_16_code 48 = .ok (.iconst (-1), 1) := by decide +kernel
theorem d_X6_readTerm_49 : decode prog_8_method_16_code 49 = .ok (.istore_n 2, 1) := by decide +kernel
theorem d_X6_readTerm_50 : decode prog_8_method_16_code 50 = .ok (.aload_n 0, 1) := by decide +kernel
theorem d_X6_readTerm_51 : decode prog_8_method_16_code 51 = .ok (.getfield 25, 3) := by decide +kernel
theorem d_X6_readTerm_54 : decode prog_8_method_16_code 54 = .ok (.getfield 53, 3) := by decide +kernel
theorem d_X6_readTerm_57 : decode prog_8_method_16_code 57 = .ok (.iconst 3, 1) := by decide +kernel
theorem d_X6_readTerm_58 : decode prog_8_method_16_code 58 = .ok (.if_icmp .eq 10, 3) := by decide +kernel
theorem d_X6_readTerm_61 : decode prog_8_method_16_code 61 = .ok (.aload_n 0, 1) := by decide +kernel
theorem d_X6_readTerm_62 : decode prog_8_method_16_code 62 = .ok (.invokevirtual 75, 3) := by decide +kernel
theorem d_X6_readTerm_65 : decode prog_8_method_16_code 65 = .ok (.goto 120, 3) := by decide +kernel
theorem d_X6_readTerm_68 : decode prog_8_method_16_code 68 = .ok (.iload_n 2, 1) := by decide +kernel
theorem d_X6_readTerm_69 : decode prog_8_method_16_code 69 = .ok (.iconst (-1), 1) := by decide +kernel
theorem d_X6_readTerm_70 : decode prog_8_method_16_code 70 = .ok (.if_icmp .ne 11, 3) := by decide +kernel
theorem d_X6_readTerm_73 : decode prog_8_method_16_code 73 = .ok (.aload_n 0, 1) := by decide +kernel
theorem d_X6_readTerm_74 : decode prog_8_method_16_code 74 = .ok (.iconst 3, 1) := by decide +kernel
theorem d_X6_readTerm_75 : decode prog_8_method_16_code 75 = .ok (.invokevirtual 101, 3) := by decide +kernel
theorem d_X6_readTerm_78 : decode prog_8_method_16_code 78 = .ok (.goto 107, 3) := by decide +kernel
theorem d_X6_readTerm_81 : decode prog_8_method_16_code 81 = .ok (.iload_n 1, 1) := by decide +kernel
theorem d_X6_readTerm_82 : decode prog_8_method_16_code 82 = .ok (.bipush 12, 2) := by decide +kernel
theorem d_X6_readTerm_84 : decode prog_8_method_16_code 84 = .ok (.if_icmp .ge 28, 3) := by decide +kernel
theorem d_X6_readTerm_87 : decode prog_8_method_16_code 87 = .ok (.aload_n 0, 1) := by decide +kernel
theorem d_X6_readTerm_88 : decode prog_8_method_16_code 88 = .ok (.getfield 12, 3) := by decide +kernel
theorem d_X6_readTerm_91 : decode prog_8_method_16_code 91 = .ok (.getfield 176, 3) := by decide +kernel
theorem d_X6_readTerm_94 : decode prog_8_method_16_code 94 = .ok (.aload_n 0, 1) := by decide +kernel
theorem d_X6_readTerm_95 : decode prog_8_method_16_code 95 = .ok (.getfield 137, 3) := by decide +kernel
theorem d_X6_readTerm_98 : decode prog_8_method_16_code 98 = .ok (.ifCond .eq 8, 3) := by decide +kernel
theorem d_X6_readTerm_101 : decode prog_8_method_16_code 101 = .ok (.bipush 12, 2) := by decide +kernel
theorem d_X6_readTerm_103 : decode prog_8_method_16_code 103 = .ok (.goto 6, 3) := by decide +kernel
theorem d_X6_readTerm_106 : decode prog_8_method_16_code 106 = .ok (.sipush 200, 3) := by decide +kernel
theorem d_X6_readTerm_109 : decode prog_8_method_16_code 109 = .ok (.if_icmp .lt 11, 3) := by decide +kernel
theorem d_X6_readTerm_112 : decode prog_8_method_16_code 112 = .ok (.aload_n 0, 1) := by decide +kernel
theorem d_X6_readTerm_113 : decode prog_8_method_16_code 113 = .ok (.iconst 4, 1) := by decide +kernel
theorem d_X6_readTerm_114 : decode prog_8_method_16_code 114 = .ok (.invokevirtual 101, 3) := by decide +kernel
theorem d_X6_readTerm_117 : decode prog_8_method_16_code 117 = .ok (.goto 68, 3) := by decide +kernel
theorem d_X6_readTerm_120 : decode prog_8_method_16_code 120 = .ok (.aload_n 0, 1) := by decide +kernel
theorem d_X6_readTerm_121 : decode prog_8_method_16_code 121 = .ok (.getfield 25, 3) := by decide +kernel
theorem d_X6_readTerm_124 : decode prog_8_method_16_code 124 = .ok (.getfield 85, 3) := by decide +kernel
theorem d_X6_readTerm_127 : decode prog_8_method_16_code 127 = .ok (.istore_n 3, 1) := by decide +kernel
theorem d_X6_readTerm_128 : decode prog_8_method_16_code 128 = .ok (.aload_n 0, 1) := by decide +kernel
theorem d_X6_readTerm_129 : decode prog_8_method_16_code 129 = .ok (.getfield 12, 3) := by decide +kernel
theorem d_X6_readTerm_132 : decode prog_8_method_16_code 132 = .ok (.iload_n 2, 1) := by decide +kernel
theorem d_X6_readTerm_133 : decode prog_8_method_16_code 133 = .ok (.invokevirtual 179, 3) := by decide +kernel
theorem d_X6_readTerm_136 : decode prog_8_method_16_code 136 = .ok (.istore 4, 2) := by decide +kernel
theorem d_X6_readTerm_138 : decode prog_8_method_16_code 138 = .ok (.aload_n 0, 1) := by decide +kernel
theorem d_X6_readTerm_139 : decode prog_8_method_16_code 139 = .ok (.getfield 25, 3) := by decide +kernel
theorem d_X6_readTerm_142 : decode prog_8_method_16_code 142 = .ok (.invokevirtual 88, 3) := by decide +kernel
theorem d_X6_readTerm_145 : decode prog_8_method_16_code 145 = .ok (.aload_n 0, 1) := by decide +kernel
theorem d_X6_readTerm_146 : decode prog_8_method_16_code 146 = .ok (.getfield 25, 3) := by decide +kernel
theorem d_X6_readTerm_149 : decode prog_8_method_16_code 149 = .ok (.getfield 53, 3) := by decide +kernel
theorem d_X6_readTerm_152 : decode prog_8_method_16_code 152 = .ok (.bipush 40, 2) := by decide +kernel
theorem d_X6_readTerm_154 : decode prog_8_method_16_code 154 = .ok (.if_icmp .ne 13, 3) := by decide +kernel
theorem d_X6_readTerm_157 : decode prog_8_method_16_code 157 = .ok (.aload_n 0, 1) := by decide +kernel
theorem d_X6_readTerm_158 : decode prog_8_method_16_code 158 = .ok (.iload 4, 2) := by decide +kernel
theorem d_X6_readTerm_160 : decode prog_8_method_16_code 160 = .ok (.iload_n 1, 1) := by decide +kernel
theorem d_X6_readTerm_161 : decode prog_8_method_16_code 161 = .ok (.invokevirtual 182, 3) := by decide +kernel
theorem d_X6_readTerm_164 : decode prog_8_method_16_code 164 = .ok (.goto 4, 3) := by decide +kernel
theorem d_X6_readTerm_167 : decode prog_8_method_16_code 167 = .ok (.iconst 0, 1) := by decide +kernel
theorem d_X6_readTerm_168 : decode prog_8_method_16_code 168 = .ok (.istore 5, 2) := by decide +kernel
theorem d_X6_readTerm_170 : decode prog_8_method_16_code 170 = .ok (.aload_n 0, 1) := by decide +kernel
theorem d_X6_readTerm_171 : decode prog_8_method_16_code 171 = .ok (.iload_n 2, 1) := by decide +kernel
theorem d_X6_readTerm_172 : decode prog_8_method_16_code 172 = .ok (.iload 5, 2) := by decide +kernel
theorem d_X6_readTerm_174 : decode prog_8_method_16_code 174 = .ok (.iload_n 3, 1) := by decide +kernel
theorem d_X6_readTerm_175 : decode prog_8_method_16_code 175 = .ok (.invokevirtual 153, 3) := by decide +kernel
theorem d_X6_readTerm_178 : decode prog_8_method_16_code 178 = .ok (.iload 4, 2) := by decide +kernel
theorem d_X6_readTerm_180 : decode prog_8_method_16_code 180 = .ok (.iconst 0, 1) := by decide +kernel
theorem d_X6_readTerm_181 : decode prog_8_method_16_code 181 = .ok (.invokestatic 186, 3) := by decide +kernel
theorem d_X6_readTerm_184 : decode prog_8_method_16_code 184 = .ok (.ireturn, 1) := by decide +kernel
theorem d_X6_readTerm_185 : decode prog_8_method_16_code 185 = .ok (.iconst (-1), 1) := by decide +kernel
theorem d_X6_readTerm_186 : decode prog_8_method_16_code 186 = .ok (.ireturn, 1) := by decide +kernel
theorem d_X6_readLinks_0 : decode prog_8_method_15_code 0 = .ok (.iconst 1, 1) := by decide +kernel
theorem d_X6_readLinks_1 : decode prog_8_method_15_code 1 = .ok (.istore_n 1, 1) := by decide +kernel
theorem d_X6_readLinks_2 : decode prog_8_method_15_code 2 = .ok (.iconst 0, 1) := by decide +kernel
theorem d_X6_readLinks_3 : decode prog_8_method_15_code 3 = .ok (.istore_n 2, 1) := by decide +kernel
theorem d_X6_readLinks_4 : decode prog_8_method_15_code 4 = .ok (.iload_n 2, 1) := by decide +kernel
theorem d_X6_readLinks_5 : decode prog_8_method_15_code 5 = .ok (.sipush 4000, 3) := by decide +kernel
theorem d_X6_readLinks_8 : decode prog_8_method_15_code 8 = .ok (.if_icmp .ge 88, 3) := by decide +kernel
theorem d_X6_readLinks_11 : decode prog_8_method_15_code 11 = .ok (.iload_n 1, 1) := by decide +kernel
theorem d_X6_readLinks_12 : decode prog_8_method_15_code 12 = .ok (.ifCond .eq 84, 3) := by decide +kernel
theorem d_X6_readLinks_15 : decode prog_8_method_15_code 15 = .ok (.aload_n 0, 1) := by decide +kernel
theorem d_X6_readLinks_16 : decode prog_8_method_15_code 16 = .ok (.iconst 0, 1) := by decide +kernel
theorem d_X6_readLinks_17 : decode prog_8_method_15_code 17 = .ok (.invokevirtual 173, 3) := by decide +kernel
theorem d_X6_readLinks_20 : decode prog_8_method_15_code 20 = .ok (.istore_n 3, 1) := by decide +kernel
theorem d_X6_readLinks_21 : decode prog_8_method_15_code 21 = .ok (.aload_n 0, 1) := by decide +kernel
theorem d_X6_readLinks_22 : decode prog_8_method_15_code 22 = .ok (.getfield 47, 3) := by decide +kernel
theorem d_X6_readLinks_25 : decode prog_8_method_15_code 25 = .ok (.ifCond .ne 9, 3) := by decide +kernel
theorem d_X6_readLinks_28 : decode prog_8_method_15_code 28 = .ok (.aload_n 0, 1) := by decide +kernel
theorem d_X6_readLinks_29 : decode prog_8_method_15_code 29 = .ok (.bipush 61, 2) := by decide +kernel
theorem d_X6_readLinks_31 : decode prog_8_method_15_code 31 = .ok (.invokevirtual 119, 3) := by decide +kernel
theorem d_X6_readLinks_34 : decode prog_8_method_15_code 34 = .ok (.aload_n 0, 1) := by decide +kernel
theorem d_X6_readLinks_35 : decode prog_8_method_15_code 35 = .ok (.getfield 47, 3) := by decide +kernel
theorem d_X6_readLinks_38 : decode prog_8_method_15_code 38 = .ok (.ifCond .ne 16, 3) := by decide +kernel
theorem d_X6_readLinks_41 : decode prog_8_method_15_code 41 = .ok (.aload_n 0, 1) := by decide +kernel
theorem d_X6_readLinks_42 : decode prog_8_method_15_code 42 = .ok (.getfield 12, 3) := by decide +kernel
theorem d_X6_readLinks_45 : decode prog_8_method_15_code 45 = .ok (.iload_n 3, 1) := by decide +kernel
theorem d_X6_readLinks_46 : decode prog_8_method_15_code 46 = .ok (.aload_n 0, 1) := by decide +kernel
theorem d_X6_readLinks_47 : decode prog_8_method_15_code 47 = .ok (.iconst 0, 1) := by decide +kernel
theorem d_X6_readLinks_48 : decode prog_8_method_15_code 48 = .ok (.invokevirtual 173, 3) := by decide +kernel
theorem d_X6_readLinks_51 : decode prog_8_method_15_code 51 = .ok (.invokevirtual 163, 3) := by decide +kernel
theorem d_X6_readLinks_54 : decode prog_8_method_15_code 54 = .ok (.aload_n 0, 1) := by decide +kernel
theorem d_X6_readLinks_55 : decode prog_8_method_15_code 55 = .ok (.getfield 47, 3) := by decide +kernel
theorem d_X6_readLinks_58 : decode prog_8_method_15_code 58 = .ok (.ifCond .ne 19, 3) := by decide +kernel
theorem d_X6_readLinks_61 : decode prog_8_method_15_code 61 = .ok (.aload_n 0, 1) := by decide +kernel
theorem d_X6_readLinks_62 : decode prog_8_method_15_code 62 = .ok (.getfield 25, 3) := by decide +kernel
theorem d_X6_readLinks_65 : decode prog_8_method_15_code 65 = .ok (.getfield 53, 3) := by decide +kernel
theorem d_X6_readLinks_68 : decode prog_8_method_15_code 68 = .ok (.bipush 44, 2) := by decide +kernel
theorem d_X6_readLinks_70 : decode prog_8_method_15_code 70 = .ok (.if_icmp .ne 7, 3) := by decide +kernel
theorem d_X6_readLinks_73 : decode prog_8_method_15_code 73 = .ok (.iconst 1, 1) := by decide +kernel
theorem d_X6_readLinks_74 : decode prog_8_method_15_code 74 = .ok (.goto 4, 3) := by decide +kernel
theorem d_X6_readLinks_77 : decode prog_8_method_15_code 77 = .ok (.iconst 0, 1) := by decide +kernel
theorem d_X6_readLinks_78 : decode prog_8_method_15_code 78 = .ok (.istore_n 1, 1) := by decide +kernel
theorem d_X6_readLinks_79 : decode prog_8_method_15_code 79 = .ok (.iload_n 1, 1) := by decide +kernel
theorem d_X6_readLinks_80 : decode prog_8_method_15_code 80 = .ok (.ifCond .eq 10, 3) := by decide +kernel
theorem d_X6_readLinks_83 : decode prog_8_method_15_code 83 = .ok (.aload_n 0, 1) := by decide +kernel
theorem d_X6_readLinks_84 : decode prog_8_method_15_code 84 = .ok (.getfield 25, 3) := by decide +kernel
theorem d_X6_readLinks_87 : decode prog_8_method_15_code 87 = .ok (.invokevirtual 88, 3) := by decide +kernel
theorem d_X6_readLinks_90 : decode prog_8_method_15_code 90 = .ok (.iinc 2 1, 3) := by decide +kernel
theorem d_X6_readLinks_93 : decode prog_8_method_15_code 93 = .ok (.goto (-89), 3) := by decide +kernel
theorem d_X6_readLinks_96 : decode prog_8_method_15_code 96 = .ok (.return_, 1) := by decide +kernel
theorem d_X6_readNet_0 : decode prog_8_method_14_code 0 = .ok (.aload_n 0, 1) := by decide +kernel
theorem d_X6_readNet_1 : decode prog_8_method_14_code 1 = .ok (.getfield 43, 3) := by decide +kernel
theorem d_X6_readNet_4 : decode prog_8_method_14_code 4 = .ok (.ifCond .eq 9, 3) := by decide +kernel
theorem d_X6_readNet_7 : decode prog_8_method_14_code 7 = .ok (.aload_n 0, 1) := by decide +kernel
theorem d_X6_readNet_8 : decode prog_8_method_14_code 8 = .ok (.iconst 4, 1) := by decide +kernel
theorem d_X6_readNet_9 : decode prog_8_method_14_code 9 = .ok (.invokevirtual 101, 3) := by decide +kernel
theorem d_X6_readNet_12 : decode prog_8_method_14_code 12 = .ok (.return_, 1) := by decide +kernel
theorem d_X6_readNet_13 : decode prog_8_method_14_code 13 = .ok (.aload_n 0, 1) := by decide +kernel
theorem d_X6_readNet_14 : decode prog_8_method_14_code 14 = .ok (.iconst 1, 1) := by decide +kernel
theorem d_X6_readNet_15 : decode prog_8_method_14_code 15 = .ok (.putfield 43, 3) := by decide +kernel
theorem d_X6_readNet_18 : decode prog_8_method_14_code 18 = .ok (.aload_n 0, 1) := by decide +kernel
theorem d_X6_readNet_19 : decode prog_8_method_14_code 19 = .ok (.getfield 25, 3) := by decide +kernel
theorem d_X6_readNet_22 : decode prog_8_method_14_code 22 = .ok (.invokevirtual 88, 3) := by decide +kernel
theorem d_X6_readNet_25 : decode prog_8_method_14_code 25 = .ok (.aload_n 0, 1) := by decide +kernel
theorem d_X6_readNet_26 : decode prog_8_method_14_code 26 = .ok (.getfield 12, 3) := by decide +kernel
theorem d_X6_readNet_29 : decode prog_8_method_14_code 29 = .ok (.invokevirtual 136, 3) := by decide +kernel
theorem d_X6_readNet_32 : decode prog_8_method_14_code 32 = .ok (.aload_n 0, 1) := by decide +kernel
theorem d_X6_readNet_33 : decode prog_8_method_14_code 33 = .ok (.iconst 0, 1) := by decide +kernel
theorem d_X6_readNet_34 : decode prog_8_method_14_code 34 = .ok (.putfield 137, 3) := by decide +kernel
theorem d_X6_readNet_37 : decode prog_8_method_14_code 37 = .ok (.aload_n 0, 1) := by decide +kernel
theorem d_X6_readNet_38 : decode prog_8_method_14_code 38 = .ok (.getfield 25, 3) := by decide +kernel
theorem d_X6_readNet_41 : decode prog_8_method_14_code 41 = .ok (.getfield 53, 3) := by decide +kernel
theorem d_X6_readNet_44 : decode prog_8_method_14_code 44 = .ok (.bipush 59, 2) := by decide +kernel
theorem d_X6_readNet_46 : decode prog_8_method_14_code 46 = .ok (.if_icmp .eq 7, 3) := by decide +kernel
theorem d_X6_readNet_49 : decode prog_8_method_14_code 49 = .ok (.aload_n 0, 1) := by decide +kernel
theorem d_X6_readNet_50 : decode prog_8_method_14_code 50 = .ok (.invokevirtual 143, 3) := by decide +kernel
theorem d_X6_readNet_53 : decode prog_8_method_14_code 53 = .ok (.aload_n 0, 1) := by decide +kernel
theorem d_X6_readNet_54 : decode prog_8_method_14_code 54 = .ok (.getfield 47, 3) := by decide +kernel
theorem d_X6_readNet_57 : decode prog_8_method_14_code 57 = .ok (.ifCond .ne 7, 3) := by decide +kernel
theorem d_X6_readNet_60 : decode prog_8_method_14_code 60 = .ok (.aload_n 0, 1) := by decide +kernel
theorem d_X6_readNet_61 : decode prog_8_method_14_code 61 = .ok (.invokevirtual 170, 3) := by decide +kernel
theorem d_X6_readNet_64 : decode prog_8_method_14_code 64 = .ok (.return_, 1) := by decide +kernel
theorem d_X6_hasSlot_0 : decode prog_8_method_26_code 0 = .ok (.aload_n 0, 1) := by decide +kernel
theorem d_X6_hasSlot_1 : decode prog_8_method_26_code 1 = .ok (.getfield 32, 3) := by decide +kernel
theorem d_X6_hasSlot_4 : decode prog_8_method_26_code 4 = .ok (.getfield 91, 3) := by decide +kernel
theorem d_X6_hasSlot_7 : decode prog_8_method_26_code 7 = .ok (.aload_n 0, 1) := by decide +kernel
theorem d_X6_hasSlot_8 : decode prog_8_method_26_code 8 = .ok (.iload_n 1, 1) := by decide +kernel
theorem d_X6_hasSlot_9 : decode prog_8_method_26_code 9 = .ok (.invokevirtual 250, 3) := by decide +kernel
theorem d_X6_hasSlot_12 : decode prog_8_method_26_code 12 = .ok (.iload_n 1, 1) := by decide +kernel
theorem d_X6_hasSlot_13 : decode prog_8_method_26_code 13 = .ok (.invokestatic 253, 3) := by decide +kernel
theorem d_X6_hasSlot_16 : decode prog_8_method_26_code 16 = .ok (.invokevirtual 256, 3) := by decide +kernel
theorem d_X6_hasSlot_19 : decode prog_8_method_26_code 19 = .ok (.ireturn, 1) := by decide +kernel
theorem d_X6_slotsFit_0 : decode prog_8_method_22_code 0 = .ok (.iconst 0, 1) := by decide +kernel
theorem d_X6_slotsFit_1 : decode prog_8_method_22_code 1 = .ok (.istore_n 1, 1) := by decide +kernel
theorem d_X6_slotsFit_2 : decode prog_8_method_22_code 2 = .ok (.iload_n 1, 1) := by decide +kernel
theorem d_X6_slotsFit_3 : decode prog_8_method_22_code 3 = .ok (.bipush 8, 2) := by decide +kernel
theorem d_X6_slotsFit_5 : decode prog_8_method_22_code 5 = .ok (.if_icmp .ge 42, 3) := by decide +kernel
theorem d_X6_slotsFit_8 : decode prog_8_method_22_code 8 = .ok (.aload_n 0, 1) := by decide +kernel
theorem d_X6_slotsFit_9 : decode prog_8_method_22_code 9 = .ok (.iload_n 1, 1) := by decide +kernel
theorem d_X6_slotsFit_10 : decode prog_8_method_22_code 10 = .ok (.invokevirtual 234, 3) := by decide +kernel
theorem d_X6_slotsFit_13 : decode prog_8_method_22_code 13 = .ok (.ifCond .eq 28, 3) := by decide +kernel
theorem d_X6_slotsFit_16 : decode prog_8_method_22_code 16 = .ok (.aload_n 0, 1) := by decide +kernel
theorem d_X6_slotsFit_17 : decode prog_8_method_22_code 17 = .ok (.aload_n 0, 1) := by decide +kernel
theorem d_X6_slotsFit_18 : decode prog_8_method_22_code 18 = .ok (.iload_n 1, 1) := by decide +kernel
theorem d_X6_slotsFit_19 : decode prog_8_method_22_code 19 = .ok (.invokevirtual 238, 3) := by decide +kernel
theorem d_X6_slotsFit_22 : decode prog_8_method_22_code 22 = .ok (.aload_n 0, 1) := by decide +kernel
theorem d_X6_slotsFit_23 : decode prog_8_method_22_code 23 = .ok (.getfield 12, 3) := by decide +kernel
theorem d_X6_slotsFit_26 : decode prog_8_method_22_code 26 = .ok (.iload_n 1, 1) := by decide +kernel
theorem d_X6_slotsFit_27 : decode prog_8_method_22_code 27 = .ok (.invokestatic 160, 3) := by decide +kernel
theorem d_X6_slotsFit_30 : decode prog_8_method_22_code 30 = .ok (.invokevirtual 228, 3) := by decide +kernel
theorem d_X6_slotsFit_33 : decode prog_8_method_22_code 33 = .ok (.invokevirtual 231, 3) := by decide +kernel
theorem d_X6_slotsFit_36 : decode prog_8_method_22_code 36 = .ok (.ifCond .ne 5, 3) := by decide +kernel
theorem d_X6_slotsFit_39 : decode prog_8_method_22_code 39 = .ok (.iconst 0, 1) := by decide +kernel
theorem d_X6_slotsFit_40 : decode prog_8_method_22_code 40 = .ok (.ireturn, 1) := by decide +kernel
theorem d_X6_slotsFit_41 : decode prog_8_method_22_code 41 = .ok (.iinc 1 1, 3) := by decide +kernel
theorem d_X6_slotsFit_44 : decode prog_8_method_22_code 44 = .ok (.goto (-42), 3) := by decide +kernel
theorem d_X6_slotsFit_47 : decode prog_8_method_22_code 47 = .ok (.iconst 1, 1) := by decide +kernel
theorem d_X6_slotsFit_48 : decode prog_8_method_22_code 48 = .ok (.ireturn, 1) := by decide +kernel
theorem d_X8_has_0 : decode prog_10_method_4_code 0 = .ok (.iload_n 1, 1) := by decide +kernel
theorem d_X8_has_1 : decode prog_10_method_4_code 1 = .ok (.ifCond .lt 21, 3) := by decide +kernel
theorem d_X8_has_4 : decode prog_10_method_4_code 4 = .ok (.iload_n 1, 1) := by decide +kernel
theorem d_X8_has_5 : decode prog_10_method_4_code 5 = .ok (.aload_n 0, 1) := by decide +kernel
theorem d_X8_has_6 : decode prog_10_method_4_code 6 = .ok (.getfield 39, 3) := by decide +kernel
theorem d_X8_has_9 : decode prog_10_method_4_code 9 = .ok (.if_icmp .ge 13, 3) := by decide +kernel
theorem d_X8_has_12 : decode prog_10_method_4_code 12 = .ok (.iload_n 1, 1) := by decide +kernel
theorem d_X8_has_13 : decode prog_10_method_4_code 13 = .ok (.bipush 60, 2) := by decide +kernel
theorem d_X8_has_15 : decode prog_10_method_4_code 15 = .ok (.if_icmp .ge 7, 3) := by decide +kernel
theorem d_X8_has_18 : decode prog_10_method_4_code 18 = .ok (.iconst 1, 1) := by decide +kernel
theorem d_X8_has_19 : decode prog_10_method_4_code 19 = .ok (.goto 4, 3) := by decide +kernel
theorem d_X8_has_22 : decode prog_10_method_4_code 22 = .ok (.iconst 0, 1) := by decide +kernel
theorem d_X8_has_23 : decode prog_10_method_4_code 23 = .ok (.ireturn, 1) := by decide +kernel
theorem d_X8_addAgent_0 : decode prog_10_method_7_code 0 = .ok (.aload_n 0, 1) := by decide +kernel
theorem d_X8_addAgent_1 : decode prog_10_method_7_code 1 = .ok (.iload_n 1, 1) := by decide +kernel
theorem d_X8_addAgent_2 : decode prog_10_method_7_code 2 = .ok (.invokevirtual 51, 3) := by decide +kernel
theorem d_X8_addAgent_5 : decode prog_10_method_7_code 5 = .ok (.ifCond .eq 41, 3) := by decide +kernel
theorem d_X8_addAgent_8 : decode prog_10_method_7_code 8 = .ok (.aload_n 0, 1) := by decide +kernel
theorem d_X8_addAgent_9 : decode prog_10_method_7_code 9 = .ok (.getfield 18, 3) := by decide +kernel
theorem d_X8_addAgent_12 : decode prog_10_method_7_code 12 = .ok (.iload_n 1, 1) := by decide +kernel
theorem d_X8_addAgent_13 : decode prog_10_method_7_code 13 = .ok (.iaload, 1) := by decide +kernel
theorem d_X8_addAgent_14 : decode prog_10_method_7_code 14 = .ok (.bipush 12, 2) := by decide +kernel
theorem d_X8_addAgent_16 : decode prog_10_method_7_code 16 = .ok (.if_icmp .ge 30, 3) := by decide +kernel
theorem d_X8_addAgent_19 : decode prog_10_method_7_code 19 = .ok (.aload_n 0, 1) := by decide +kernel
theorem d_X8_addAgent_20 : decode prog_10_method_7_code 20 = .ok (.getfield 24, 3) := by decide +kernel
theorem d_X8_addAgent_23 : decode prog_10_method_7_code 23 = .ok (.iload_n 1, 1) := by decide +kernel
theorem d_X8_addAgent_24 : decode prog_10_method_7_code 24 = .ok (.bipush 12, 2) := by decide +kernel
theorem d_X8_addAgent_26 : decode prog_10_method_7_code 26 = .ok (.imul, 1) := by decide +kernel
theorem d_X8_addAgent_27 : decode prog_10_method_7_code 27 = .ok (.aload_n 0, 1) := by decide +kernel
theorem d_X8_addAgent_28 : decode prog_10_method_7_code 28 = .ok (.getfield 18, 3) := by decide +kernel
theorem d_X8_addAgent_31 : decode prog_10_method_7_code 31 = .ok (.iload_n 1, 1) := by decide +kernel
theorem d_X8_addAgent_32 : decode prog_10_method_7_code 32 = .ok (.iaload, 1) := by decide +kernel
theorem d_X8_addAgent_33 : decode prog_10_method_7_code 33 = .ok (.iadd, 1) := by decide +kernel
theorem d_X8_addAgent_34 : decode prog_10_method_7_code 34 = .ok (.iload_n 2, 1) := by decide +kernel
theorem d_X8_addAgent_35 : decode prog_10_method_7_code 35 = .ok (.iastore, 1) := by decide +kernel
theorem d_X8_addAgent_36 : decode prog_10_method_7_code 36 = .ok (.aload_n 0, 1) := by decide +kernel
theorem d_X8_addAgent_37 : decode prog_10_method_7_code 37 = .ok (.getfield 18, 3) := by decide +kernel
theorem d_X8_addAgent_40 : decode prog_10_method_7_code 40 = .ok (.iload_n 1, 1) := by decide +kernel
theorem d_X8_addAgent_41 : decode prog_10_method_7_code 41 = .ok (.dup2, 1) := by decide +kernel
theorem d_X8_addAgent_42 : decode prog_10_method_7_code 42 = .ok (.iaload, 1) := by decide +kernel
theorem d_X8_addAgent_43 : decode prog_10_method_7_code 43 = .ok (.iconst 1, 1) := by decide +kernel
theorem d_X8_addAgent_44 : decode prog_10_method_7_code 44 = .ok (.iadd, 1) := by decide +kernel
theorem d_X8_addAgent_45 : decode prog_10_method_7_code 45 = .ok (.iastore, 1) := by decide +kernel
theorem d_X8_addAgent_46 : decode prog_10_method_7_code 46 = .ok (.return_, 1) := by decide +kernel
theorem d_X8_setRings_0 : decode prog_10_method_8_code 0 = .ok (.aload_n 0, 1) := by decide +kernel
theorem d_X8_setRings_1 : decode prog_10_method_8_code 1 = .ok (.iload_n 1, 1) := by decide +kernel
theorem d_X8_setRings_2 : decode prog_10_method_8_code 2 = .ok (.invokevirtual 51, 3) := by decide +kernel
theorem d_X8_setRings_5 : decode prog_10_method_8_code 5 = .ok (.ifCond .eq 10, 3) := by decide +kernel
theorem d_X8_setRings_8 : decode prog_10_method_8_code 8 = .ok (.aload_n 0, 1) := by decide +kernel
theorem d_X8_setRings_9 : decode prog_10_method_8_code 9 = .ok (.getfield 21, 3) := by decide +kernel
theorem d_X8_setRings_12 : decode prog_10_method_8_code 12 = .ok (.iload_n 1, 1) := by decide +kernel
theorem d_X8_setRings_13 : decode prog_10_method_8_code 13 = .ok (.iload_n 2, 1) := by decide +kernel
theorem d_X8_setRings_14 : decode prog_10_method_8_code 14 = .ok (.iastore, 1) := by decide +kernel
theorem d_X8_setRings_15 : decode prog_10_method_8_code 15 = .ok (.return_, 1) := by decide +kernel
theorem d_X8_setWire_0 : decode prog_10_method_9_code 0 = .ok (.aload_n 0, 1) := by decide +kernel
theorem d_X8_setWire_1 : decode prog_10_method_9_code 1 = .ok (.iload_n 1, 1) := by decide +kernel
theorem d_X8_setWire_2 : decode prog_10_method_9_code 2 = .ok (.invokevirtual 51, 3) := by decide +kernel
theorem d_X8_setWire_5 : decode prog_10_method_9_code 5 = .ok (.ifCond .eq 27, 3) := by decide +kernel
theorem d_X8_setWire_8 : decode prog_10_method_9_code 8 = .ok (.iload_n 2, 1) := by decide +kernel
theorem d_X8_setWire_9 : decode prog_10_method_9_code 9 = .ok (.bipush 96, 2) := by decide +kernel
theorem d_X8_setWire_11 : decode prog_10_method_9_code 11 = .ok (.invokestatic 43, 3) := by decide +kernel
theorem d_X8_setWire_14 : decode prog_10_method_9_code 14 = .ok (.ifCond .eq 18, 3) := by decide +kernel
theorem d_X8_setWire_17 : decode prog_10_method_9_code 17 = .ok (.aload_n 0, 1) := by decide +kernel
theorem d_X8_setWire_18 : decode prog_10_method_9_code 18 = .ok (.getfield 27, 3) := by decide +kernel
theorem d_X8_setWire_21 : decode prog_10_method_9_code 21 = .ok (.iload_n 1, 1) := by decide +kernel
theorem d_X8_setWire_22 : decode prog_10_method_9_code 22 = .ok (.bipush 96, 2) := by decide +kernel
theorem d_X8_setWire_24 : decode prog_10_method_9_code 24 = .ok (.imul, 1) := by decide +kernel
theorem d_X8_setWire_25 : decode prog_10_method_9_code 25 = .ok (.iload_n 2, 1) := by decide +kernel
theorem d_X8_setWire_26 : decode prog_10_method_9_code 26 = .ok (.iadd, 1) := by decide +kernel
theorem d_X8_setWire_27 : decode prog_10_method_9_code 27 = .ok (.iload_n 3, 1) := by decide +kernel
theorem d_X8_setWire_28 : decode prog_10_method_9_code 28 = .ok (.iastore, 1) := by decide +kernel
theorem d_X8_setWire_29 : decode prog_10_method_9_code 29 = .ok (.goto 38, 3) := by decide +kernel
theorem d_X8_setWire_32 : decode prog_10_method_9_code 32 = .ok (.aload_n 0, 1) := by decide +kernel
theorem d_X8_setWire_33 : decode prog_10_method_9_code 33 = .ok (.iload_n 1, 1) := by decide +kernel
theorem d_X8_setWire_34 : decode prog_10_method_9_code 34 = .ok (.invokevirtual 51, 3) := by decide +kernel
theorem d_X8_setWire_37 : decode prog_10_method_9_code 37 = .ok (.ifCond .eq 30, 3) := by decide +kernel
theorem d_X8_setWire_40 : decode prog_10_method_9_code 40 = .ok (.iload_n 2, 1) := by decide +kernel
theorem d_X8_setWire_41 : decode prog_10_method_9_code 41 = .ok (.invokestatic 55, 3) := by decide +kernel
theorem d_X8_setWire_44 : decode prog_10_method_9_code 44 = .ok (.bipush 8, 2) := by decide +kernel
theorem d_X8_setWire_46 : decode prog_10_method_9_code 46 = .ok (.invokestatic 43, 3) := by decide +kernel
theorem d_X8_setWire_49 : decode prog_10_method_9_code 49 = .ok (.ifCond .eq 18, 3) := by decide +kernel
theorem d_X8_setWire_52 : decode prog_10_method_9_code 52 = .ok (.aload_n 0, 1) := by decide +kernel
theorem d_X8_setWire_53 : decode prog_10_method_9_code 53 = .ok (.getfield 30, 3) := by decide +kernel
theorem d_X8_setWire_56 : decode prog_10_method_9_code 56 = .ok (.iload_n 1, 1) := by decide +kernel
theorem d_X8_setWire_57 : decode prog_10_method_9_code 57 = .ok (.bipush 8, 2) := by decide +kernel
theorem d_X8_setWire_59 : decode prog_10_method_9_code 59 = .ok (.imul, 1) := by decide +kernel
theorem d_X8_setWire_60 : decode prog_10_method_9_code 60 = .ok (.iload_n 2, 1) := by decide +kernel
theorem d_X8_setWire_61 : decode prog_10_method_9_code 61 = .ok (.invokestatic 55, 3) := by decide +kernel
theorem d_X8_setWire_64 : decode prog_10_method_9_code 64 = .ok (.iadd, 1) := by decide +kernel
theorem d_X8_setWire_65 : decode prog_10_method_9_code 65 = .ok (.iload_n 3, 1) := by decide +kernel
theorem d_X8_setWire_66 : decode prog_10_method_9_code 66 = .ok (.iastore, 1) := by decide +kernel
theorem d_X8_setWire_67 : decode prog_10_method_9_code 67 = .ok (.return_, 1) := by decide +kernel
theorem d_X6_storeRule_0 : decode prog_8_method_28_code 0 = .ok (.iconst 0, 1) := by decide +kernel
theorem d_X6_storeRule_1 : decode prog_8_method_28_code 1 = .ok (.istore_n 2, 1) := by decide +kernel
theorem d_X6_storeRule_2 : decode prog_8_method_28_code 2 = .ok (.iload_n 2, 1) := by decide +kernel
theorem d_X6_storeRule_3 : decode prog_8_method_28_code 3 = .ok (.aload_n 0, 1) := by decide +kernel
theorem d_X6_storeRule_4 : decode prog_8_method_28_code 4 = .ok (.getfield 12, 3) := by decide +kernel
theorem d_X6_storeRule_7 : decode prog_8_method_28_code 7 = .ok (.getfield 176, 3) := by decide +kernel
theorem d_X6_storeRule_10 : decode prog_8_method_28_code 10 = .ok (.if_icmp .ge 92, 3) := by decide +kernel
theorem d_X6_storeRule_13 : decode prog_8_method_28_code 13 = .ok (.aload_n 0, 1) := by decide +kernel
theorem d_X6_storeRule_14 : decode prog_8_method_28_code 14 = .ok (.getfield 32, 3) := by decide +kernel
theorem d_X6_storeRule_17 : decode prog_8_method_28_code 17 = .ok (.getfield 129, 3) := by decide +kernel
theorem d_X6_storeRule_20 : decode prog_8_method_28_code 20 = .ok (.iload_n 1, 1) := by decide +kernel
theorem d_X6_storeRule_21 : decode prog_8_method_28_code 21 = .ok (.aload_n 0, 1) := by decide +kernel
theorem d_X6_storeRule_22 : decode prog_8_method_28_code 22 = .ok (.getfield 12, 3) := by decide +kernel
theorem d_X6_storeRule_25 : decode prog_8_method_28_code 25 = .ok (.iload_n 2, 1) := by decide +kernel
theorem d_X6_storeRule_26 : decode prog_8_method_28_code 26 = .ok (.invokevirtual 222, 3) := by decide +kernel
theorem d_X6_storeRule_29 : decode prog_8_method_28_code 29 = .ok (.invokevirtual 259, 3) := by decide +kernel
theorem d_X6_storeRule_32 : decode prog_8_method_28_code 32 = .ok (.aload_n 0, 1) := by decide +kernel
theorem d_X6_storeRule_33 : decode prog_8_method_28_code 33 = .ok (.getfield 32, 3) := by decide +kernel
theorem d_X6_storeRule_36 : decode prog_8_method_28_code 36 = .ok (.getfield 91, 3) := by decide +kernel
theorem d_X6_storeRule_39 : decode prog_8_method_28_code 39 = .ok (.aload_n 0, 1) := by decide +kernel
theorem d_X6_storeRule_40 : decode prog_8_method_28_code 40 = .ok (.getfield 12, 3) := by decide +kernel
theorem d_X6_storeRule_43 : decode prog_8_method_28_code 43 = .ok (.iload_n 2, 1) := by decide +kernel
theorem d_X6_storeRule_44 : decode prog_8_method_28_code 44 = .ok (.invokevirtual 222, 3) := by decide +kernel
theorem d_X6_storeRule_47 : decode prog_8_method_28_code 47 = .ok (.invokevirtual 167, 3) := by decide +kernel
theorem d_X6_storeRule_50 : decode prog_8_method_28_code 50 = .ok (.istore_n 3, 1) := by decide +kernel
theorem d_X6_storeRule_51 : decode prog_8_method_28_code 51 = .ok (.iconst 0, 1) := by decide +kernel
theorem d_X6_storeRule_52 : decode prog_8_method_28_code 52 = .ok (.istore 4, 2) := by decide +kernel
theorem d_X6_storeRule_54 : decode prog_8_method_28_code 54 = .ok (.iload 4, 2) := by decide +kernel
theorem d_X6_storeRule_56 : decode prog_8_method_28_code 56 = .ok (.iload_n 3, 1) := by decide +kernel
theorem d_X6_storeRule_57 : decode prog_8_method_28_code 57 = .ok (.if_icmp .ge 39, 3) := by decide +kernel
theorem d_X6_storeRule_60 : decode prog_8_method_28_code 60 = .ok (.aload_n 0, 1) := by decide +kernel
theorem d_X6_storeRule_61 : decode prog_8_method_28_code 61 = .ok (.getfield 32, 3) := by decide +kernel
theorem d_X6_storeRule_64 : decode prog_8_method_28_code 64 = .ok (.getfield 129, 3) := by decide +kernel
theorem d_X6_storeRule_67 : decode prog_8_method_28_code 67 = .ok (.iload_n 1, 1) := by decide +kernel
theorem d_X6_storeRule_68 : decode prog_8_method_28_code 68 = .ok (.iload_n 2, 1) := by decide +kernel
theorem d_X6_storeRule_69 : decode prog_8_method_28_code 69 = .ok (.iload 4, 2) := by decide +kernel
theorem d_X6_storeRule_71 : decode prog_8_method_28_code 71 = .ok (.invokestatic 186, 3) := by decide +kernel
theorem d_X6_storeRule_74 : decode prog_8_method_28_code 74 = .ok (.aload_n 0, 1) := by decide +kernel
theorem d_X6_storeRule_75 : decode prog_8_method_28_code 75 = .ok (.getfield 12, 3) := by decide +kernel
theorem d_X6_storeRule_78 : decode prog_8_method_28_code 78 = .ok (.iload_n 2, 1) := by decide +kernel
theorem d_X6_storeRule_79 : decode prog_8_method_28_code 79 = .ok (.iload 4, 2) := by decide +kernel
theorem d_X6_storeRule_81 : decode prog_8_method_28_code 81 = .ok (.invokestatic 186, 3) := by decide +kernel
theorem d_X6_storeRule_84 : decode prog_8_method_28_code 84 = .ok (.invokevirtual 228, 3) := by decide +kernel
theorem d_X6_storeRule_87 : decode prog_8_method_28_code 87 = .ok (.invokevirtual 261, 3) := by decide +kernel
theorem d_X6_storeRule_90 : decode prog_8_method_28_code 90 = .ok (.iinc 4 1, 3) := by decide +kernel
theorem d_X6_storeRule_93 : decode prog_8_method_28_code 93 = .ok (.goto (-39), 3) := by decide +kernel
theorem d_X6_storeRule_96 : decode prog_8_method_28_code 96 = .ok (.iinc 2 1, 3) := by decide +kernel
theorem d_X6_storeRule_99 : decode prog_8_method_28_code 99 = .ok (.goto (-97), 3) := by decide +kernel
theorem d_X6_storeRule_102 : decode prog_8_method_28_code 102 = .ok (.iconst 0, 1) := by decide +kernel
theorem d_X6_storeRule_103 : decode prog_8_method_28_code 103 = .ok (.istore_n 2, 1) := by decide +kernel
theorem d_X6_storeRule_104 : decode prog_8_method_28_code 104 = .ok (.iload_n 2, 1) := by decide +kernel
theorem d_X6_storeRule_105 : decode prog_8_method_28_code 105 = .ok (.bipush 8, 2) := by decide +kernel
theorem d_X6_storeRule_107 : decode prog_8_method_28_code 107 = .ok (.if_icmp .ge 43, 3) := by decide +kernel
theorem d_X6_storeRule_110 : decode prog_8_method_28_code 110 = .ok (.aload_n 0, 1) := by decide +kernel
theorem d_X6_storeRule_111 : decode prog_8_method_28_code 111 = .ok (.iload_n 2, 1) := by decide +kernel
theorem d_X6_storeRule_112 : decode prog_8_method_28_code 112 = .ok (.invokevirtual 234, 3) := by decide +kernel
theorem d_X6_storeRule_115 : decode prog_8_method_28_code 115 = .ok (.ifCond .eq 29, 3) := by decide +kernel
theorem d_X6_storeRule_118 : decode prog_8_method_28_code 118 = .ok (.aload_n 0, 1) := by decide +kernel
theorem d_X6_storeRule_119 : decode prog_8_method_28_code 119 = .ok (.getfield 32, 3) := by decide +kernel
theorem d_X6_storeRule_122 : decode prog_8_method_28_code 122 = .ok (.getfield 129, 3) := by decide +kernel
theorem d_X6_storeRule_125 : decode prog_8_method_28_code 125 = .ok (.iload_n 1, 1) := by decide +kernel
theorem d_X6_storeRule_126 : decode prog_8_method_28_code 126 = .ok (.iload_n 2, 1) := by decide +kernel
theorem d_X6_storeRule_127 : decode prog_8_method_28_code 127 = .ok (.invokestatic 264, 3) := by decide +kernel
theorem d_X6_storeRule_130 : decode prog_8_method_28_code 130 = .ok (.aload_n 0, 1) := by decide +kernel
theorem d_X6_storeRule_131 : decode prog_8_method_28_code 131 = .ok (.getfield 12, 3) := by decide +kernel
theorem d_X6_storeRule_134 : decode prog_8_method_28_code 134 = .ok (.iload_n 2, 1) := by decide +kernel
theorem d_X6_storeRule_135 : decode prog_8_method_28_code 135 = .ok (.invokestatic 160, 3) := by decide +kernel
theorem d_X6_storeRule_138 : decode prog_8_method_28_code 138 = .ok (.invokevirtual 228, 3) := by decide +kernel
theorem d_X6_storeRule_141 : decode prog_8_method_28_code 141 = .ok (.invokevirtual 261, 3) := by decide +kernel
theorem d_X6_storeRule_144 : decode prog_8_method_28_code 144 = .ok (.iinc 2 1, 3) := by decide +kernel
theorem d_X6_storeRule_147 : decode prog_8_method_28_code 147 = .ok (.goto (-43), 3) := by decide +kernel
theorem d_X6_storeRule_150 : decode prog_8_method_28_code 150 = .ok (.aload_n 0, 1) := by decide +kernel
theorem d_X6_storeRule_151 : decode prog_8_method_28_code 151 = .ok (.getfield 32, 3) := by decide +kernel
theorem d_X6_storeRule_154 : decode prog_8_method_28_code 154 = .ok (.getfield 129, 3) := by decide +kernel
theorem d_X6_storeRule_157 : decode prog_8_method_28_code 157 = .ok (.iload_n 1, 1) := by decide +kernel
theorem d_X6_storeRule_158 : decode prog_8_method_28_code 158 = .ok (.aload_n 0, 1) := by decide +kernel
theorem d_X6_storeRule_159 : decode prog_8_method_28_code 159 = .ok (.getfield 12, 3) := by decide +kernel
theorem d_X6_storeRule_162 : decode prog_8_method_28_code 162 = .ok (.invokevirtual 267, 3) := by decide +kernel
theorem d_X6_storeRule_165 : decode prog_8_method_28_code 165 = .ok (.invokevirtual 271, 3) := by decide +kernel
theorem d_X6_storeRule_168 : decode prog_8_method_28_code 168 = .ok (.return_, 1) := by decide +kernel
theorem d_X8_isFull_0 : decode prog_10_method_3_code 0 = .ok (.aload_n 0, 1) := by decide +kernel
theorem d_X8_isFull_1 : decode prog_10_method_3_code 1 = .ok (.getfield 39, 3) := by decide +kernel
theorem d_X8_isFull_4 : decode prog_10_method_3_code 4 = .ok (.bipush 60, 2) := by decide +kernel
theorem d_X8_isFull_6 : decode prog_10_method_3_code 6 = .ok (.if_icmp .lt 7, 3) := by decide +kernel
theorem d_X8_isFull_9 : decode prog_10_method_3_code 9 = .ok (.iconst 1, 1) := by decide +kernel
theorem d_X8_isFull_10 : decode prog_10_method_3_code 10 = .ok (.goto 4, 3) := by decide +kernel
theorem d_X8_isFull_13 : decode prog_10_method_3_code 13 = .ok (.iconst 0, 1) := by decide +kernel
theorem d_X8_isFull_14 : decode prog_10_method_3_code 14 = .ok (.ireturn, 1) := by decide +kernel
theorem d_X8_add_0 : decode prog_10_method_6_code 0 = .ok (.aload_n 0, 1) := by decide +kernel
theorem d_X8_add_1 : decode prog_10_method_6_code 1 = .ok (.invokevirtual 47, 3) := by decide +kernel
theorem d_X8_add_4 : decode prog_10_method_6_code 4 = .ok (.ifCond .ne 21, 3) := by decide +kernel
theorem d_X8_add_7 : decode prog_10_method_6_code 7 = .ok (.iload_n 1, 1) := by decide +kernel
theorem d_X8_add_8 : decode prog_10_method_6_code 8 = .ok (.bipush 16, 2) := by decide +kernel
theorem d_X8_add_10 : decode prog_10_method_6_code 10 = .ok (.invokestatic 43, 3) := by decide +kernel
theorem d_X8_add_13 : decode prog_10_method_6_code 13 = .ok (.ifCond .eq 12, 3) := by decide +kernel
theorem d_X8_add_16 : decode prog_10_method_6_code 16 = .ok (.iload_n 2, 1) := by decide +kernel
theorem d_X8_add_17 : decode prog_10_method_6_code 17 = .ok (.bipush 16, 2) := by decide +kernel
theorem d_X8_add_19 : decode prog_10_method_6_code 19 = .ok (.invokestatic 43, 3) := by decide +kernel
theorem d_X8_add_22 : decode prog_10_method_6_code 22 = .ok (.ifCond .ne 5, 3) := by decide +kernel
theorem d_X8_add_25 : decode prog_10_method_6_code 25 = .ok (.iconst (-1), 1) := by decide +kernel
theorem d_X8_add_26 : decode prog_10_method_6_code 26 = .ok (.ireturn, 1) := by decide +kernel
theorem d_X8_add_27 : decode prog_10_method_6_code 27 = .ok (.aload_n 0, 1) := by decide +kernel
theorem d_X8_add_28 : decode prog_10_method_6_code 28 = .ok (.getfield 39, 3) := by decide +kernel
theorem d_X8_add_31 : decode prog_10_method_6_code 31 = .ok (.istore_n 3, 1) := by decide +kernel
theorem d_X8_add_32 : decode prog_10_method_6_code 32 = .ok (.aload_n 0, 1) := by decide +kernel
theorem d_X8_add_33 : decode prog_10_method_6_code 33 = .ok (.getfield 9, 3) := by decide +kernel
theorem d_X8_add_36 : decode prog_10_method_6_code 36 = .ok (.iload_n 1, 1) := by decide +kernel
theorem d_X8_add_37 : decode prog_10_method_6_code 37 = .ok (.bipush 16, 2) := by decide +kernel
theorem d_X8_add_39 : decode prog_10_method_6_code 39 = .ok (.imul, 1) := by decide +kernel
theorem d_X8_add_40 : decode prog_10_method_6_code 40 = .ok (.iload_n 2, 1) := by decide +kernel
theorem d_X8_add_41 : decode prog_10_method_6_code 41 = .ok (.iadd, 1) := by decide +kernel
theorem d_X8_add_42 : decode prog_10_method_6_code 42 = .ok (.iload_n 3, 1) := by decide +kernel
theorem d_X8_add_43 : decode prog_10_method_6_code 43 = .ok (.iastore, 1) := by decide +kernel
theorem d_X8_add_44 : decode prog_10_method_6_code 44 = .ok (.aload_n 0, 1) := by decide +kernel
theorem d_X8_add_45 : decode prog_10_method_6_code 45 = .ok (.getfield 9, 3) := by decide +kernel
theorem d_X8_add_48 : decode prog_10_method_6_code 48 = .ok (.iload_n 2, 1) := by decide +kernel
theorem d_X8_add_49 : decode prog_10_method_6_code 49 = .ok (.bipush 16, 2) := by decide +kernel
theorem d_X8_add_51 : decode prog_10_method_6_code 51 = .ok (.imul, 1) := by decide +kernel
theorem d_X8_add_52 : decode prog_10_method_6_code 52 = .ok (.iload_n 1, 1) := by decide +kernel
theorem d_X8_add_53 : decode prog_10_method_6_code 53 = .ok (.iadd, 1) := by decide +kernel
theorem d_X8_add_54 : decode prog_10_method_6_code 54 = .ok (.iload_n 3, 1) := by decide +kernel
