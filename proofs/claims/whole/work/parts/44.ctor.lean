/-! the constructors of the class (by program) -/
set_option maxRecDepth 20000 in
theorem wo_i : Cond.instanceMethod Lib.objectInit ∈ tb := tb1 28 rfl rfl
set_option maxRecDepth 20000 in
theorem wo_c : Cond.code Lib.objectInit ⟨#[0xb1]⟩ 1 none ∈ tb := tb1 29 rfl rfl
theorem d_X1_init_0 : decode prog_3_method_1_code 0 = .ok (.aload_n 0, 1) := by decide +kernel
theorem d_X1_init_1 : decode prog_3_method_1_code 1 = .ok (.invokespecial 5, 3) := by decide +kernel
theorem d_X1_init_4 : decode prog_3_method_1_code 4 = .ok (.aload_n 0, 1) := by decide +kernel
theorem d_X1_init_5 : decode prog_3_method_1_code 5 = .ok (.sipush 1728, 3) := by decide +kernel
theorem d_X1_init_8 : decode prog_3_method_1_code 8 = .ok (.newarray .int, 2) := by decide +kernel
theorem d_X1_init_10 : decode prog_3_method_1_code 10 = .ok (.putfield 11, 3) := by decide +kernel
theorem d_X1_init_13 : decode prog_3_method_1_code 13 = .ok (.aload_n 0, 1) := by decide +kernel
theorem d_X1_init_14 : decode prog_3_method_1_code 14 = .ok (.sipush 200, 3) := by decide +kernel
theorem d_X1_init_17 : decode prog_3_method_1_code 17 = .ok (.newarray .int, 2) := by decide +kernel
theorem d_X1_init_19 : decode prog_3_method_1_code 19 = .ok (.putfield 15, 3) := by decide +kernel
theorem d_X1_init_22 : decode prog_3_method_1_code 22 = .ok (.aload_n 0, 1) := by decide +kernel
theorem d_X1_init_23 : decode prog_3_method_1_code 23 = .ok (.bipush 60, 2) := by decide +kernel
theorem d_X1_init_25 : decode prog_3_method_1_code 25 = .ok (.newarray .long, 2) := by decide +kernel
theorem d_X1_init_27 : decode prog_3_method_1_code 27 = .ok (.putfield 18, 3) := by decide +kernel
theorem d_X1_init_30 : decode prog_3_method_1_code 30 = .ok (.aload_n 0, 1) := by decide +kernel
theorem d_X1_init_31 : decode prog_3_method_1_code 31 = .ok (.bipush 60, 2) := by decide +kernel
theorem d_X1_init_33 : decode prog_3_method_1_code 33 = .ok (.newarray .int, 2) := by decide +kernel
theorem d_X1_init_35 : decode prog_3_method_1_code 35 = .ok (.putfield 22, 3) := by decide +kernel
theorem d_X1_init_38 : decode prog_3_method_1_code 38 = .ok (.aload_n 0, 1) := by decide +kernel
theorem d_X1_init_39 : decode prog_3_method_1_code 39 = .ok (.bipush 60, 2) := by decide +kernel
theorem d_X1_init_41 : decode prog_3_method_1_code 41 = .ok (.newarray .boolean, 2) := by decide +kernel
theorem d_X1_init_43 : decode prog_3_method_1_code 43 = .ok (.putfield 25, 3) := by decide +kernel
theorem d_X1_init_46 : decode prog_3_method_1_code 46 = .ok (.return_, 1) := by decide +kernel
abbrev m_X1_init : Mt := (⟨"HeadNets$Draft", "<init>", "()V"⟩, prog_3_method_1_code, 1, none)
theorem df_1 : ∀ j, j < 8 → defaultValue (tyc1 j) = vp_V [.null, .null, .null, .null, .null, .int 0, .int 0, .int 0] j := by
  intro j hj
  rcases (show j = 0 ∨ j = 1 ∨ j = 2 ∨ j = 3 ∨ j = 4 ∨ j = 5 ∨ j = 6 ∨ j = 7 by omega) with rfl | rfl | rfl | rfl | rfl | rfl | rfl | rfl <;> rfl
set_option maxRecDepth 20000 in
theorem xi_1 : Cond.initialized "HeadNets$Draft" ∈ tb := tb1 3 rfl rfl
set_option maxRecDepth 20000 in
theorem xn_1 : Cond.instantiable "HeadNets$Draft" 8 ∈ tb := tb1 37 rfl rfl
set_option maxRecDepth 20000 in
theorem xm_1 : Cond.instanceMethod m_X1_init.1 ∈ tb := tb1 39 rfl rfl
set_option maxRecDepth 20000 in
theorem xc_1 : Cond.code m_X1_init.1 m_X1_init.2.1 m_X1_init.2.2.1 m_X1_init.2.2.2 ∈ tb := tb1 40 rfl rfl
set_option maxRecDepth 20000 in
theorem ol_1_5 : Cond.methodLink "HeadNets$Draft" 5 Lib.objectInit ∈ tb := tb1 41 rfl rfl
set_option maxRecDepth 20000 in
theorem gl_1_11 : Cond.fieldLink "HeadNets$Draft" 11 "HeadNets$Draft" "mates" "[I" ∈ tb := tb1 42 rfl rfl
set_option maxRecDepth 20000 in
theorem gl_1_15 : Cond.fieldLink "HeadNets$Draft" 15 "HeadNets$Draft" "agentKinds" "[I" ∈ tb := tb1 43 rfl rfl
set_option maxRecDepth 20000 in
theorem gl_1_18 : Cond.fieldLink "HeadNets$Draft" 18 "HeadNets$Draft" "names" "[J" ∈ tb := tb1 44 rfl rfl
set_option maxRecDepth 20000 in
theorem gl_1_22 : Cond.fieldLink "HeadNets$Draft" 22 "HeadNets$Draft" "times" "[I" ∈ tb := tb1 45 rfl rfl
set_option maxRecDepth 20000 in
theorem gl_1_25 : Cond.fieldLink "HeadNets$Draft" 25 "HeadNets$Draft" "walked" "[Z" ∈ tb := tb1 46 rfl rfl
def Res_X1_init (w : Wo) (b : Nat) (w1 : va_W) : Prop := ∃ (q1 q2 q3 q4 q5 : Nat), w1 = [(b, .inr (1, [.ref q1, .ref q2, .ref q3, .ref q4, .ref q5, .int 0, .int 0, .int 0])), (q1, .inl (w.2.1 0, 1728, .inl (fun _ => 0))), (q2, .inl (w.2.1 0, 200, .inl (fun _ => 0))), (q3, .inl (w.2.1 1, 60, .inr (.inl (fun _ => 0)))), (q4, .inl (w.2.1 0, 60, .inl (fun _ => 0))), (q5, .inl (w.2.1 3, 60, .inl (fun _ => 0)))]
set_option maxRecDepth 100000 in
set_option maxHeartbeats 4000000 in
theorem ka_X1_init (l : Launch) (w : Wo) : KA l w m_X1_init 2 5 2108 1 [.null, .null, .null, .null, .null, .int 0, .int 0, .int 0] (Res_X1_init w) := by
  refine ka_of (plainFor_of_name (by decide +kernel)) 0 rfl (fun b sz => ?_)
  refine pa_aload 0 d_X1_init_0 rfl rfl rfl ?_
  refine pa_objInit ol_1_5 wo_i wo_c (Nat.le_of_ble_eq_true rfl) (Nat.le_of_ble_eq_true rfl) d_X1_init_1 rfl ?_
  refine pa_aload 0 d_X1_init_4 rfl rfl rfl ?_
  refine pa_sipush (v := 1728) d_X1_init_5 (by decide +kernel) rfl ?_
  refine pa_newI (N := 1728) (by decide) (by decide) (by decide) (Nat.le_of_ble_eq_true rfl) (Nat.le_of_ble_eq_true rfl) d_X1_init_8 rfl (fun q1 => ?_)
  refine pa_putF (j := 0) (ws' := [(b, .inr (1, [.ref q1, .null, .null, .null, .null, .int 0, .int 0, .int 0])), (q1, .inl (w.2.1 0, 1728, .inl (fun _ => 0)))]) 0 cf1 rfl (by decide) rfl rfl rfl rfl rfl (Nat.le_of_ble_eq_true rfl) gl_1_11 rfl d_X1_init_10 rfl ?_
  refine pa_aload 0 d_X1_init_13 rfl rfl rfl ?_
  refine pa_sipush (v := 200) d_X1_init_14 (by decide +kernel) rfl ?_
  refine pa_newI (N := 200) (by decide) (by decide) (by decide) (Nat.le_of_ble_eq_true rfl) (Nat.le_of_ble_eq_true rfl) d_X1_init_17 rfl (fun q2 => ?_)
  refine pa_putF (j := 1) (ws' := [(b, .inr (1, [.ref q1, .ref q2, .null, .null, .null, .int 0, .int 0, .int 0])), (q1, .inl (w.2.1 0, 1728, .inl (fun _ => 0))), (q2, .inl (w.2.1 0, 200, .inl (fun _ => 0)))]) 0 cf1 rfl (by decide) rfl rfl rfl rfl rfl (Nat.le_of_ble_eq_true rfl) gl_1_15 rfl d_X1_init_19 rfl ?_
  refine pa_aload 0 d_X1_init_22 rfl rfl rfl ?_
  refine pa_bipush (v := 60) d_X1_init_23 (by decide +kernel) rfl ?_
  refine pa_newJ (N := 60) (by decide) (by decide) (by decide) (Nat.le_of_ble_eq_true rfl) (Nat.le_of_ble_eq_true rfl) d_X1_init_25 rfl (fun q3 => ?_)
  refine pa_putF (j := 2) (ws' := [(b, .inr (1, [.ref q1, .ref q2, .ref q3, .null, .null, .int 0, .int 0, .int 0])), (q1, .inl (w.2.1 0, 1728, .inl (fun _ => 0))), (q2, .inl (w.2.1 0, 200, .inl (fun _ => 0))), (q3, .inl (w.2.1 1, 60, .inr (.inl (fun _ => 0))))]) 0 cf1 rfl (by decide) rfl rfl rfl rfl rfl (Nat.le_of_ble_eq_true rfl) gl_1_18 rfl d_X1_init_27 rfl ?_
  refine pa_aload 0 d_X1_init_30 rfl rfl rfl ?_
  refine pa_bipush (v := 60) d_X1_init_31 (by decide +kernel) rfl ?_
  refine pa_newI (N := 60) (by decide) (by decide) (by decide) (Nat.le_of_ble_eq_true rfl) (Nat.le_of_ble_eq_true rfl) d_X1_init_33 rfl (fun q4 => ?_)
  refine pa_putF (j := 3) (ws' := [(b, .inr (1, [.ref q1, .ref q2, .ref q3, .ref q4, .null, .int 0, .int 0, .int 0])), (q1, .inl (w.2.1 0, 1728, .inl (fun _ => 0))), (q2, .inl (w.2.1 0, 200, .inl (fun _ => 0))), (q3, .inl (w.2.1 1, 60, .inr (.inl (fun _ => 0)))), (q4, .inl (w.2.1 0, 60, .inl (fun _ => 0)))]) 0 cf1 rfl (by decide) rfl rfl rfl rfl rfl (Nat.le_of_ble_eq_true rfl) gl_1_22 rfl d_X1_init_35 rfl ?_
  refine pa_aload 0 d_X1_init_38 rfl rfl rfl ?_
  refine pa_bipush (v := 60) d_X1_init_39 (by decide +kernel) rfl ?_
  refine pa_newZ (N := 60) (by decide) (by decide) (by decide) (Nat.le_of_ble_eq_true rfl) (Nat.le_of_ble_eq_true rfl) d_X1_init_41 rfl (fun q5 => ?_)
  refine pa_putF (j := 4) (ws' := [(b, .inr (1, [.ref q1, .ref q2, .ref q3, .ref q4, .ref q5, .int 0, .int 0, .int 0])), (q1, .inl (w.2.1 0, 1728, .inl (fun _ => 0))), (q2, .inl (w.2.1 0, 200, .inl (fun _ => 0))), (q3, .inl (w.2.1 1, 60, .inr (.inl (fun _ => 0)))), (q4, .inl (w.2.1 0, 60, .inl (fun _ => 0))), (q5, .inl (w.2.1 3, 60, .inl (fun _ => 0)))]) 0 cf1 rfl (by decide) rfl rfl rfl rfl rfl (Nat.le_of_ble_eq_true rfl) gl_1_25 rfl d_X1_init_43 rfl ?_
  exact pa_vret rfl ⟨q1, q2, q3, q4, q5, rfl⟩ (Nat.le_of_ble_eq_true rfl) (Nat.le_of_ble_eq_true rfl) d_X1_init_46
theorem d_X9_init_0 : decode prog_11_method_1_code 0 = .ok (.aload_n 0, 1) := by decide +kernel
theorem d_X9_init_1 : decode prog_11_method_1_code 1 = .ok (.invokespecial 3, 3) := by decide +kernel
theorem d_X9_init_4 : decode prog_11_method_1_code 4 = .ok (.aload_n 0, 1) := by decide +kernel
theorem d_X9_init_5 : decode prog_11_method_1_code 5 = .ok (.sipush 4000, 3) := by decide +kernel
theorem d_X9_init_8 : decode prog_11_method_1_code 8 = .ok (.newarray .byte, 2) := by decide +kernel
theorem d_X9_init_10 : decode prog_11_method_1_code 10 = .ok (.putfield 9, 3) := by decide +kernel
theorem d_X9_init_13 : decode prog_11_method_1_code 13 = .ok (.aload_n 0, 1) := by decide +kernel
theorem d_X9_init_14 : decode prog_11_method_1_code 14 = .ok (.sipush 4001, 3) := by decide +kernel
theorem d_X9_init_17 : decode prog_11_method_1_code 17 = .ok (.newarray .int, 2) := by decide +kernel
theorem d_X9_init_19 : decode prog_11_method_1_code 19 = .ok (.putfield 15, 3) := by decide +kernel
theorem d_X9_init_22 : decode prog_11_method_1_code 22 = .ok (.aload_n 0, 1) := by decide +kernel
theorem d_X9_init_23 : decode prog_11_method_1_code 23 = .ok (.sipush 4001, 3) := by decide +kernel
theorem d_X9_init_26 : decode prog_11_method_1_code 26 = .ok (.newarray .int, 2) := by decide +kernel
theorem d_X9_init_28 : decode prog_11_method_1_code 28 = .ok (.putfield 19, 3) := by decide +kernel
theorem d_X9_init_31 : decode prog_11_method_1_code 31 = .ok (.aload_n 0, 1) := by decide +kernel
theorem d_X9_init_32 : decode prog_11_method_1_code 32 = .ok (.sipush 4001, 3) := by decide +kernel
theorem d_X9_init_35 : decode prog_11_method_1_code 35 = .ok (.newarray .long, 2) := by decide +kernel
theorem d_X9_init_37 : decode prog_11_method_1_code 37 = .ok (.putfield 22, 3) := by decide +kernel
theorem d_X9_init_40 : decode prog_11_method_1_code 40 = .ok (.return_, 1) := by decide +kernel
abbrev m_X9_init : Mt := (⟨"HeadNets$Tape", "<init>", "()V"⟩, prog_11_method_1_code, 1, none)
theorem df_9 : ∀ j, j < 10 → defaultValue (tyc9 j) = vp_V [.null, .null, .null, .null, .int 0, .int 0, .int 0, .int 0, .int 0, .long 0] j := by
  intro j hj
  rcases (show j = 0 ∨ j = 1 ∨ j = 2 ∨ j = 3 ∨ j = 4 ∨ j = 5 ∨ j = 6 ∨ j = 7 ∨ j = 8 ∨ j = 9 by omega) with rfl | rfl | rfl | rfl | rfl | rfl | rfl | rfl | rfl | rfl <;> rfl
set_option maxRecDepth 20000 in
theorem xi_9 : Cond.initialized "HeadNets$Tape" ∈ tb := tb1 4 rfl rfl
set_option maxRecDepth 20000 in
theorem xn_9 : Cond.instantiable "HeadNets$Tape" 10 ∈ tb := tb1 73 rfl rfl
set_option maxRecDepth 20000 in
theorem xm_9 : Cond.instanceMethod m_X9_init.1 ∈ tb := tb1 75 rfl rfl
set_option maxRecDepth 20000 in
theorem xc_9 : Cond.code m_X9_init.1 m_X9_init.2.1 m_X9_init.2.2.1 m_X9_init.2.2.2 ∈ tb := tb1 76 rfl rfl
set_option maxRecDepth 20000 in
theorem ol_9_3 : Cond.methodLink "HeadNets$Tape" 3 Lib.objectInit ∈ tb := tb1 77 rfl rfl
set_option maxRecDepth 20000 in
theorem gl_9_9 : Cond.fieldLink "HeadNets$Tape" 9 "HeadNets$Tape" "bytes" "[B" ∈ tb := tb1 78 rfl rfl
set_option maxRecDepth 20000 in
theorem gl_9_15 : Cond.fieldLink "HeadNets$Tape" 15 "HeadNets$Tape" "tokens" "[I" ∈ tb := tb1 79 rfl rfl
set_option maxRecDepth 20000 in
theorem gl_9_19 : Cond.fieldLink "HeadNets$Tape" 19 "HeadNets$Tape" "starts" "[I" ∈ tb := tb1 80 rfl rfl
set_option maxRecDepth 20000 in
theorem gl_9_22 : Cond.fieldLink "HeadNets$Tape" 22 "HeadNets$Tape" "names" "[J" ∈ tb := tb1 81 rfl rfl
def Res_X9_init (w : Wo) (b : Nat) (w1 : va_W) : Prop := ∃ (q1 q2 q3 q4 : Nat), w1 = [(b, .inr (9, [.ref q1, .ref q2, .ref q3, .ref q4, .int 0, .int 0, .int 0, .int 0, .int 0, .long 0])), (q1, .inl (w.2.1 2, 4000, .inl (fun _ => 0))), (q2, .inl (w.2.1 0, 4001, .inl (fun _ => 0))), (q3, .inl (w.2.1 0, 4001, .inl (fun _ => 0))), (q4, .inl (w.2.1 1, 4001, .inr (.inl (fun _ => 0))))]
set_option maxRecDepth 100000 in
set_option maxHeartbeats 4000000 in
theorem ka_X9_init (l : Launch) (w : Wo) : KA l w m_X9_init 2 4 16003 9 [.null, .null, .null, .null, .int 0, .int 0, .int 0, .int 0, .int 0, .long 0] (Res_X9_init w) := by
  refine ka_of (plainFor_of_name (by decide +kernel)) 0 rfl (fun b sz => ?_)
  refine pa_aload 0 d_X9_init_0 rfl rfl rfl ?_
  refine pa_objInit ol_9_3 wo_i wo_c (Nat.le_of_ble_eq_true rfl) (Nat.le_of_ble_eq_true rfl) d_X9_init_1 rfl ?_
  refine pa_aload 0 d_X9_init_4 rfl rfl rfl ?_
  refine pa_sipush (v := 4000) d_X9_init_5 (by decide +kernel) rfl ?_
  refine pa_newB (N := 4000) (by decide) (by decide) (by decide) (Nat.le_of_ble_eq_true rfl) (Nat.le_of_ble_eq_true rfl) d_X9_init_8 rfl (fun q1 => ?_)
  refine pa_putF (j := 0) (ws' := [(b, .inr (9, [.ref q1, .null, .null, .null, .int 0, .int 0, .int 0, .int 0, .int 0, .long 0])), (q1, .inl (w.2.1 2, 4000, .inl (fun _ => 0)))]) 0 cf9 rfl (by decide) rfl rfl rfl rfl rfl (Nat.le_of_ble_eq_true rfl) gl_9_9 rfl d_X9_init_10 rfl ?_
  refine pa_aload 0 d_X9_init_13 rfl rfl rfl ?_
  refine pa_sipush (v := 4001) d_X9_init_14 (by decide +kernel) rfl ?_
  refine pa_newI (N := 4001) (by decide) (by decide) (by decide) (Nat.le_of_ble_eq_true rfl) (Nat.le_of_ble_eq_true rfl) d_X9_init_17 rfl (fun q2 => ?_)
  refine pa_putF (j := 1) (ws' := [(b, .inr (9, [.ref q1, .ref q2, .null, .null, .int 0, .int 0, .int 0, .int 0, .int 0, .long 0])), (q1, .inl (w.2.1 2, 4000, .inl (fun _ => 0))), (q2, .inl (w.2.1 0, 4001, .inl (fun _ => 0)))]) 0 cf9 rfl (by decide) rfl rfl rfl rfl rfl (Nat.le_of_ble_eq_true rfl) gl_9_15 rfl d_X9_init_19 rfl ?_
  refine pa_aload 0 d_X9_init_22 rfl rfl rfl ?_
  refine pa_sipush (v := 4001) d_X9_init_23 (by decide +kernel) rfl ?_
  refine pa_newI (N := 4001) (by decide) (by decide) (by decide) (Nat.le_of_ble_eq_true rfl) (Nat.le_of_ble_eq_true rfl) d_X9_init_26 rfl (fun q3 => ?_)
  refine pa_putF (j := 2) (ws' := [(b, .inr (9, [.ref q1, .ref q2, .ref q3, .null, .int 0, .int 0, .int 0, .int 0, .int 0, .long 0])), (q1, .inl (w.2.1 2, 4000, .inl (fun _ => 0))), (q2, .inl (w.2.1 0, 4001, .inl (fun _ => 0))), (q3, .inl (w.2.1 0, 4001, .inl (fun _ => 0)))]) 0 cf9 rfl (by decide) rfl rfl rfl rfl rfl (Nat.le_of_ble_eq_true rfl) gl_9_19 rfl d_X9_init_28 rfl ?_
  refine pa_aload 0 d_X9_init_31 rfl rfl rfl ?_
  refine pa_sipush (v := 4001) d_X9_init_32 (by decide +kernel) rfl ?_
  refine pa_newJ (N := 4001) (by decide) (by decide) (by decide) (Nat.le_of_ble_eq_true rfl) (Nat.le_of_ble_eq_true rfl) d_X9_init_35 rfl (fun q4 => ?_)
  refine pa_putF (j := 3) (ws' := [(b, .inr (9, [.ref q1, .ref q2, .ref q3, .ref q4, .int 0, .int 0, .int 0, .int 0, .int 0, .long 0])), (q1, .inl (w.2.1 2, 4000, .inl (fun _ => 0))), (q2, .inl (w.2.1 0, 4001, .inl (fun _ => 0))), (q3, .inl (w.2.1 0, 4001, .inl (fun _ => 0))), (q4, .inl (w.2.1 1, 4001, .inr (.inl (fun _ => 0))))]) 0 cf9 rfl (by decide) rfl rfl rfl rfl rfl (Nat.le_of_ble_eq_true rfl) gl_9_22 rfl d_X9_init_37 rfl ?_
  exact pa_vret rfl ⟨q1, q2, q3, q4, rfl⟩ (Nat.le_of_ble_eq_true rfl) (Nat.le_of_ble_eq_true rfl) d_X9_init_40
theorem d_X3_init_0 : decode prog_5_method_1_code 0 = .ok (.aload_n 0, 1) := by decide +kernel
theorem d_X3_init_1 : decode prog_5_method_1_code 1 = .ok (.invokespecial 3, 3) := by decide +kernel
theorem d_X3_init_4 : decode prog_5_method_1_code 4 = .ok (.aload_n 0, 1) := by decide +kernel
theorem d_X3_init_5 : decode prog_5_method_1_code 5 = .ok (.bipush 16, 2) := by decide +kernel
theorem d_X3_init_7 : decode prog_5_method_1_code 7 = .ok (.newarray .long, 2) := by decide +kernel
theorem d_X3_init_9 : decode prog_5_method_1_code 9 = .ok (.putfield 9, 3) := by decide +kernel
theorem d_X3_init_12 : decode prog_5_method_1_code 12 = .ok (.aload_n 0, 1) := by decide +kernel
theorem d_X3_init_13 : decode prog_5_method_1_code 13 = .ok (.bipush 16, 2) := by decide +kernel
theorem d_X3_init_15 : decode prog_5_method_1_code 15 = .ok (.newarray .int, 2) := by decide +kernel
theorem d_X3_init_17 : decode prog_5_method_1_code 17 = .ok (.putfield 15, 3) := by decide +kernel
theorem d_X3_init_20 : decode prog_5_method_1_code 20 = .ok (.aload_n 0, 1) := by decide +kernel
theorem d_X3_init_21 : decode prog_5_method_1_code 21 = .ok (.bipush 80, 2) := by decide +kernel
theorem d_X3_init_23 : decode prog_5_method_1_code 23 = .ok (.newarray .int, 2) := by decide +kernel
theorem d_X3_init_25 : decode prog_5_method_1_code 25 = .ok (.putfield 19, 3) := by decide +kernel
theorem d_X3_init_28 : decode prog_5_method_1_code 28 = .ok (.return_, 1) := by decide +kernel
abbrev m_X3_init : Mt := (⟨"HeadNets$Kinds", "<init>", "()V"⟩, prog_5_method_1_code, 1, none)
theorem df_3 : ∀ j, j < 4 → defaultValue (tyc3 j) = vp_V [.null, .null, .null, .int 0] j := by
  intro j hj
  rcases (show j = 0 ∨ j = 1 ∨ j = 2 ∨ j = 3 by omega) with rfl | rfl | rfl | rfl <;> rfl
set_option maxRecDepth 20000 in
theorem xi_3 : Cond.initialized "HeadNets$Kinds" ∈ tb := tb1 6 rfl rfl
set_option maxRecDepth 20000 in
theorem xn_3 : Cond.instantiable "HeadNets$Kinds" 4 ∈ tb := tb1 122 rfl rfl
set_option maxRecDepth 20000 in
theorem xm_3 : Cond.instanceMethod m_X3_init.1 ∈ tb := tb1 124 rfl rfl
set_option maxRecDepth 20000 in
theorem xc_3 : Cond.code m_X3_init.1 m_X3_init.2.1 m_X3_init.2.2.1 m_X3_init.2.2.2 ∈ tb := tb1 125 rfl rfl
set_option maxRecDepth 20000 in
theorem ol_3_3 : Cond.methodLink "HeadNets$Kinds" 3 Lib.objectInit ∈ tb := tb1 126 rfl rfl
set_option maxRecDepth 20000 in
theorem gl_3_9 : Cond.fieldLink "HeadNets$Kinds" 9 "HeadNets$Kinds" "names" "[J" ∈ tb := tb1 127 rfl rfl
set_option maxRecDepth 20000 in
theorem gl_3_15 : Cond.fieldLink "HeadNets$Kinds" 15 "HeadNets$Kinds" "ports" "[I" ∈ tb := tb1 128 rfl rfl
set_option maxRecDepth 20000 in
theorem gl_3_19 : Cond.fieldLink "HeadNets$Kinds" 19 "HeadNets$Kinds" "sorts" "[I" ∈ tb := tb1 129 rfl rfl
def Res_X3_init (w : Wo) (b : Nat) (w1 : va_W) : Prop := ∃ (q1 q2 q3 : Nat), w1 = [(b, .inr (3, [.ref q1, .ref q2, .ref q3, .int 0])), (q1, .inl (w.2.1 1, 16, .inr (.inl (fun _ => 0)))), (q2, .inl (w.2.1 0, 16, .inl (fun _ => 0))), (q3, .inl (w.2.1 0, 80, .inl (fun _ => 0)))]
set_option maxRecDepth 100000 in
set_option maxHeartbeats 4000000 in
theorem ka_X3_init (l : Launch) (w : Wo) : KA l w m_X3_init 2 3 112 3 [.null, .null, .null, .int 0] (Res_X3_init w) := by
  refine ka_of (plainFor_of_name (by decide +kernel)) 0 rfl (fun b sz => ?_)
  refine pa_aload 0 d_X3_init_0 rfl rfl rfl ?_
  refine pa_objInit ol_3_3 wo_i wo_c (Nat.le_of_ble_eq_true rfl) (Nat.le_of_ble_eq_true rfl) d_X3_init_1 rfl ?_
  refine pa_aload 0 d_X3_init_4 rfl rfl rfl ?_
  refine pa_bipush (v := 16) d_X3_init_5 (by decide +kernel) rfl ?_
  refine pa_newJ (N := 16) (by decide) (by decide) (by decide) (Nat.le_of_ble_eq_true rfl) (Nat.le_of_ble_eq_true rfl) d_X3_init_7 rfl (fun q1 => ?_)
  refine pa_putF (j := 0) (ws' := [(b, .inr (3, [.ref q1, .null, .null, .int 0])), (q1, .inl (w.2.1 1, 16, .inr (.inl (fun _ => 0))))]) 0 cf3 rfl (by decide) rfl rfl rfl rfl rfl (Nat.le_of_ble_eq_true rfl) gl_3_9 rfl d_X3_init_9 rfl ?_
  refine pa_aload 0 d_X3_init_12 rfl rfl rfl ?_
  refine pa_bipush (v := 16) d_X3_init_13 (by decide +kernel) rfl ?_
  refine pa_newI (N := 16) (by decide) (by decide) (by decide) (Nat.le_of_ble_eq_true rfl) (Nat.le_of_ble_eq_true rfl) d_X3_init_15 rfl (fun q2 => ?_)
  refine pa_putF (j := 1) (ws' := [(b, .inr (3, [.ref q1, .ref q2, .null, .int 0])), (q1, .inl (w.2.1 1, 16, .inr (.inl (fun _ => 0)))), (q2, .inl (w.2.1 0, 16, .inl (fun _ => 0)))]) 0 cf3 rfl (by decide) rfl rfl rfl rfl rfl (Nat.le_of_ble_eq_true rfl) gl_3_15 rfl d_X3_init_17 rfl ?_
  refine pa_aload 0 d_X3_init_20 rfl rfl rfl ?_
  refine pa_bipush (v := 80) d_X3_init_21 (by decide +kernel) rfl ?_
  refine pa_newI (N := 80) (by decide) (by decide) (by decide) (Nat.le_of_ble_eq_true rfl) (Nat.le_of_ble_eq_true rfl) d_X3_init_23 rfl (fun q3 => ?_)
  refine pa_putF (j := 2) (ws' := [(b, .inr (3, [.ref q1, .ref q2, .ref q3, .int 0])), (q1, .inl (w.2.1 1, 16, .inr (.inl (fun _ => 0)))), (q2, .inl (w.2.1 0, 16, .inl (fun _ => 0))), (q3, .inl (w.2.1 0, 80, .inl (fun _ => 0)))]) 0 cf3 rfl (by decide) rfl rfl rfl rfl rfl (Nat.le_of_ble_eq_true rfl) gl_3_19 rfl d_X3_init_25 rfl ?_
  exact pa_vret rfl ⟨q1, q2, q3, rfl⟩ (Nat.le_of_ble_eq_true rfl) (Nat.le_of_ble_eq_true rfl) d_X3_init_28
theorem d_X8_init_0 : decode prog_10_method_1_code 0 = .ok (.aload_n 0, 1) := by decide +kernel
theorem d_X8_init_1 : decode prog_10_method_1_code 1 = .ok (.invokespecial 3, 3) := by decide +kernel
theorem d_X8_init_4 : decode prog_10_method_1_code 4 = .ok (.aload_n 0, 1) := by decide +kernel
theorem d_X8_init_5 : decode prog_10_method_1_code 5 = .ok (.sipush 256, 3) := by decide +kernel
theorem d_X8_init_8 : decode prog_10_method_1_code 8 = .ok (.newarray .int, 2) := by decide +kernel
theorem d_X8_init_10 : decode prog_10_method_1_code 10 = .ok (.putfield 9, 3) := by decide +kernel
theorem d_X8_init_13 : decode prog_10_method_1_code 13 = .ok (.aload_n 0, 1) := by decide +kernel
theorem d_X8_init_14 : decode prog_10_method_1_code 14 = .ok (.bipush 60, 2) := by decide +kernel
theorem d_X8_init_16 : decode prog_10_method_1_code 16 = .ok (.newarray .int, 2) := by decide +kernel
theorem d_X8_init_18 : decode prog_10_method_1_code 18 = .ok (.putfield 15, 3) := by decide +kernel
theorem d_X8_init_21 : decode prog_10_method_1_code 21 = .ok (.aload_n 0, 1) := by decide +kernel
theorem d_X8_init_22 : decode prog_10_method_1_code 22 = .ok (.bipush 60, 2) := by decide +kernel
theorem d_X8_init_24 : decode prog_10_method_1_code 24 = .ok (.newarray .int, 2) := by decide +kernel
theorem d_X8_init_26 : decode prog_10_method_1_code 26 = .ok (.putfield 18, 3) := by decide +kernel
theorem d_X8_init_29 : decode prog_10_method_1_code 29 = .ok (.aload_n 0, 1) := by decide +kernel
theorem d_X8_init_30 : decode prog_10_method_1_code 30 = .ok (.bipush 60, 2) := by decide +kernel
theorem d_X8_init_32 : decode prog_10_method_1_code 32 = .ok (.newarray .int, 2) := by decide +kernel
theorem d_X8_init_34 : decode prog_10_method_1_code 34 = .ok (.putfield 21, 3) := by decide +kernel
theorem d_X8_init_37 : decode prog_10_method_1_code 37 = .ok (.aload_n 0, 1) := by decide +kernel
theorem d_X8_init_38 : decode prog_10_method_1_code 38 = .ok (.sipush 720, 3) := by decide +kernel
theorem d_X8_init_41 : decode prog_10_method_1_code 41 = .ok (.newarray .int, 2) := by decide +kernel
theorem d_X8_init_43 : decode prog_10_method_1_code 43 = .ok (.putfield 24, 3) := by decide +kernel
theorem d_X8_init_46 : decode prog_10_method_1_code 46 = .ok (.aload_n 0, 1) := by decide +kernel
theorem d_X8_init_47 : decode prog_10_method_1_code 47 = .ok (.sipush 5760, 3) := by decide +kernel
theorem d_X8_init_50 : decode prog_10_method_1_code 50 = .ok (.newarray .int, 2) := by decide +kernel
theorem d_X8_init_52 : decode prog_10_method_1_code 52 = .ok (.putfield 27, 3) := by decide +kernel
theorem d_X8_init_55 : decode prog_10_method_1_code 55 = .ok (.aload_n 0, 1) := by decide +kernel
theorem d_X8_init_56 : decode prog_10_method_1_code 56 = .ok (.sipush 480, 3) := by decide +kernel
theorem d_X8_init_59 : decode prog_10_method_1_code 59 = .ok (.newarray .int, 2) := by decide +kernel
theorem d_X8_init_61 : decode prog_10_method_1_code 61 = .ok (.putfield 30, 3) := by decide +kernel
theorem d_X8_init_64 : decode prog_10_method_1_code 64 = .ok (.aload_n 0, 1) := by decide +kernel
theorem d_X8_init_65 : decode prog_10_method_1_code 65 = .ok (.getfield 9, 3) := by decide +kernel
theorem d_X8_init_68 : decode prog_10_method_1_code 68 = .ok (.iconst (-1), 1) := by decide +kernel
theorem d_X8_init_69 : decode prog_10_method_1_code 69 = .ok (.invokestatic 33, 3) := by decide +kernel
theorem d_X8_init_72 : decode prog_10_method_1_code 72 = .ok (.return_, 1) := by decide +kernel
abbrev m_X8_init : Mt := (⟨"HeadNets$Rules", "<init>", "()V"⟩, prog_10_method_1_code, 1, none)
theorem df_8 : ∀ j, j < 8 → defaultValue (tyc8 j) = vp_V [.null, .null, .null, .null, .null, .null, .null, .int 0] j := by
  intro j hj
  rcases (show j = 0 ∨ j = 1 ∨ j = 2 ∨ j = 3 ∨ j = 4 ∨ j = 5 ∨ j = 6 ∨ j = 7 by omega) with rfl | rfl | rfl | rfl | rfl | rfl | rfl | rfl <;> rfl
set_option maxRecDepth 20000 in
theorem xi_8 : Cond.initialized "HeadNets$Rules" ∈ tb := tb1 7 rfl rfl
set_option maxRecDepth 20000 in
theorem xn_8 : Cond.instantiable "HeadNets$Rules" 8 ∈ tb := tb1 143 rfl rfl
set_option maxRecDepth 20000 in
theorem xm_8 : Cond.instanceMethod m_X8_init.1 ∈ tb := tb1 145 rfl rfl
set_option maxRecDepth 20000 in
theorem xc_8 : Cond.code m_X8_init.1 m_X8_init.2.1 m_X8_init.2.2.1 m_X8_init.2.2.2 ∈ tb := tb1 146 rfl rfl
set_option maxRecDepth 20000 in
theorem ol_8_3 : Cond.methodLink "HeadNets$Rules" 3 Lib.objectInit ∈ tb := tb1 147 rfl rfl
set_option maxRecDepth 20000 in
theorem gl_8_9 : Cond.fieldLink "HeadNets$Rules" 9 "HeadNets$Rules" "ruleOfKinds" "[I" ∈ tb := tb1 151 rfl rfl
set_option maxRecDepth 20000 in
theorem gl_8_15 : Cond.fieldLink "HeadNets$Rules" 15 "HeadNets$Rules" "firstKinds" "[I" ∈ tb := tb1 152 rfl rfl
set_option maxRecDepth 20000 in
theorem gl_8_18 : Cond.fieldLink "HeadNets$Rules" 18 "HeadNets$Rules" "agentCounts" "[I" ∈ tb := tb1 153 rfl rfl
set_option maxRecDepth 20000 in
theorem gl_8_21 : Cond.fieldLink "HeadNets$Rules" 21 "HeadNets$Rules" "rings" "[I" ∈ tb := tb1 154 rfl rfl
set_option maxRecDepth 20000 in
theorem gl_8_24 : Cond.fieldLink "HeadNets$Rules" 24 "HeadNets$Rules" "agentKinds" "[I" ∈ tb := tb1 155 rfl rfl
set_option maxRecDepth 20000 in
theorem gl_8_27 : Cond.fieldLink "HeadNets$Rules" 27 "HeadNets$Rules" "portWires" "[I" ∈ tb := tb1 156 rfl rfl
set_option maxRecDepth 20000 in
theorem gl_8_30 : Cond.fieldLink "HeadNets$Rules" 30 "HeadNets$Rules" "slotWires" "[I" ∈ tb := tb1 157 rfl rfl
def Res_X8_init (w : Wo) (b : Nat) (w1 : va_W) : Prop := ∃ (q1 q2 q3 q4 q5 q6 q7 : Nat), ∃ (f8 : Nat → Int32), w1 = [(b, .inr (8, [.ref q1, .ref q2, .ref q3, .ref q4, .ref q5, .ref q6, .ref q7, .int 0])), (q1, .inl (w.2.1 0, 256, .inl f8)), (q2, .inl (w.2.1 0, 60, .inl (fun _ => 0))), (q3, .inl (w.2.1 0, 60, .inl (fun _ => 0))), (q4, .inl (w.2.1 0, 60, .inl (fun _ => 0))), (q5, .inl (w.2.1 0, 720, .inl (fun _ => 0))), (q6, .inl (w.2.1 0, 5760, .inl (fun _ => 0))), (q7, .inl (w.2.1 0, 480, .inl (fun _ => 0)))] ∧ (∀ j, j < 256 → f8 j = -1)
set_option maxRecDepth 100000 in
set_option maxHeartbeats 4000000 in
theorem ka_X8_init (l : Launch) (w : Wo) : KA l w m_X8_init 3 7 7396 8 [.null, .null, .null, .null, .null, .null, .null, .int 0] (Res_X8_init w) := by
  refine ka_of (plainFor_of_name (by decide +kernel)) 0 rfl (fun b sz => ?_)
  refine pa_aload 0 d_X8_init_0 rfl rfl rfl ?_
  refine pa_objInit ol_8_3 wo_i wo_c (Nat.le_of_ble_eq_true rfl) (Nat.le_of_ble_eq_true rfl) d_X8_init_1 rfl ?_
  refine pa_aload 0 d_X8_init_4 rfl rfl rfl ?_
  refine pa_sipush (v := 256) d_X8_init_5 (by decide +kernel) rfl ?_
  refine pa_newI (N := 256) (by decide) (by decide) (by decide) (Nat.le_of_ble_eq_true rfl) (Nat.le_of_ble_eq_true rfl) d_X8_init_8 rfl (fun q1 => ?_)
  refine pa_putF (j := 0) (ws' := [(b, .inr (8, [.ref q1, .null, .null, .null, .null, .null, .null, .int 0])), (q1, .inl (w.2.1 0, 256, .inl (fun _ => 0)))]) 0 cf8 rfl (by decide) rfl rfl rfl rfl rfl (Nat.le_of_ble_eq_true rfl) gl_8_9 rfl d_X8_init_10 rfl ?_
  refine pa_aload 0 d_X8_init_13 rfl rfl rfl ?_
  refine pa_bipush (v := 60) d_X8_init_14 (by decide +kernel) rfl ?_
  refine pa_newI (N := 60) (by decide) (by decide) (by decide) (Nat.le_of_ble_eq_true rfl) (Nat.le_of_ble_eq_true rfl) d_X8_init_16 rfl (fun q2 => ?_)
  refine pa_putF (j := 1) (ws' := [(b, .inr (8, [.ref q1, .ref q2, .null, .null, .null, .null, .null, .int 0])), (q1, .inl (w.2.1 0, 256, .inl (fun _ => 0))), (q2, .inl (w.2.1 0, 60, .inl (fun _ => 0)))]) 0 cf8 rfl (by decide) rfl rfl rfl rfl rfl (Nat.le_of_ble_eq_true rfl) gl_8_15 rfl d_X8_init_18 rfl ?_
  refine pa_aload 0 d_X8_init_21 rfl rfl rfl ?_
  refine pa_bipush (v := 60) d_X8_init_22 (by decide +kernel) rfl ?_
  refine pa_newI (N := 60) (by decide) (by decide) (by decide) (Nat.le_of_ble_eq_true rfl) (Nat.le_of_ble_eq_true rfl) d_X8_init_24 rfl (fun q3 => ?_)
  refine pa_putF (j := 2) (ws' := [(b, .inr (8, [.ref q1, .ref q2, .ref q3, .null, .null, .null, .null, .int 0])), (q1, .inl (w.2.1 0, 256, .inl (fun _ => 0))), (q2, .inl (w.2.1 0, 60, .inl (fun _ => 0))), (q3, .inl (w.2.1 0, 60, .inl (fun _ => 0)))]) 0 cf8 rfl (by decide) rfl rfl rfl rfl rfl (Nat.le_of_ble_eq_true rfl) gl_8_18 rfl d_X8_init_26 rfl ?_
  refine pa_aload 0 d_X8_init_29 rfl rfl rfl ?_
  refine pa_bipush (v := 60) d_X8_init_30 (by decide +kernel) rfl ?_
  refine pa_newI (N := 60) (by decide) (by decide) (by decide) (Nat.le_of_ble_eq_true rfl) (Nat.le_of_ble_eq_true rfl) d_X8_init_32 rfl (fun q4 => ?_)
  refine pa_putF (j := 3) (ws' := [(b, .inr (8, [.ref q1, .ref q2, .ref q3, .ref q4, .null, .null, .null, .int 0])), (q1, .inl (w.2.1 0, 256, .inl (fun _ => 0))), (q2, .inl (w.2.1 0, 60, .inl (fun _ => 0))), (q3, .inl (w.2.1 0, 60, .inl (fun _ => 0))), (q4, .inl (w.2.1 0, 60, .inl (fun _ => 0)))]) 0 cf8 rfl (by decide) rfl rfl rfl rfl rfl (Nat.le_of_ble_eq_true rfl) gl_8_21 rfl d_X8_init_34 rfl ?_
  refine pa_aload 0 d_X8_init_37 rfl rfl rfl ?_
  refine pa_sipush (v := 720) d_X8_init_38 (by decide +kernel) rfl ?_
  refine pa_newI (N := 720) (by decide) (by decide) (by decide) (Nat.le_of_ble_eq_true rfl) (Nat.le_of_ble_eq_true rfl) d_X8_init_41 rfl (fun q5 => ?_)
  refine pa_putF (j := 4) (ws' := [(b, .inr (8, [.ref q1, .ref q2, .ref q3, .ref q4, .ref q5, .null, .null, .int 0])), (q1, .inl (w.2.1 0, 256, .inl (fun _ => 0))), (q2, .inl (w.2.1 0, 60, .inl (fun _ => 0))), (q3, .inl (w.2.1 0, 60, .inl (fun _ => 0))), (q4, .inl (w.2.1 0, 60, .inl (fun _ => 0))), (q5, .inl (w.2.1 0, 720, .inl (fun _ => 0)))]) 0 cf8 rfl (by decide) rfl rfl rfl rfl rfl (Nat.le_of_ble_eq_true rfl) gl_8_24 rfl d_X8_init_43 rfl ?_
  refine pa_aload 0 d_X8_init_46 rfl rfl rfl ?_
  refine pa_sipush (v := 5760) d_X8_init_47 (by decide +kernel) rfl ?_
  refine pa_newI (N := 5760) (by decide) (by decide) (by decide) (Nat.le_of_ble_eq_true rfl) (Nat.le_of_ble_eq_true rfl) d_X8_init_50 rfl (fun q6 => ?_)
  refine pa_putF (j := 5) (ws' := [(b, .inr (8, [.ref q1, .ref q2, .ref q3, .ref q4, .ref q5, .ref q6, .null, .int 0])), (q1, .inl (w.2.1 0, 256, .inl (fun _ => 0))), (q2, .inl (w.2.1 0, 60, .inl (fun _ => 0))), (q3, .inl (w.2.1 0, 60, .inl (fun _ => 0))), (q4, .inl (w.2.1 0, 60, .inl (fun _ => 0))), (q5, .inl (w.2.1 0, 720, .inl (fun _ => 0))), (q6, .inl (w.2.1 0, 5760, .inl (fun _ => 0)))]) 0 cf8 rfl (by decide) rfl rfl rfl rfl rfl (Nat.le_of_ble_eq_true rfl) gl_8_27 rfl d_X8_init_52 rfl ?_
  refine pa_aload 0 d_X8_init_55 rfl rfl rfl ?_
  refine pa_sipush (v := 480) d_X8_init_56 (by decide +kernel) rfl ?_
  refine pa_newI (N := 480) (by decide) (by decide) (by decide) (Nat.le_of_ble_eq_true rfl) (Nat.le_of_ble_eq_true rfl) d_X8_init_59 rfl (fun q7 => ?_)
  refine pa_putF (j := 6) (ws' := [(b, .inr (8, [.ref q1, .ref q2, .ref q3, .ref q4, .ref q5, .ref q6, .ref q7, .int 0])), (q1, .inl (w.2.1 0, 256, .inl (fun _ => 0))), (q2, .inl (w.2.1 0, 60, .inl (fun _ => 0))), (q3, .inl (w.2.1 0, 60, .inl (fun _ => 0))), (q4, .inl (w.2.1 0, 60, .inl (fun _ => 0))), (q5, .inl (w.2.1 0, 720, .inl (fun _ => 0))), (q6, .inl (w.2.1 0, 5760, .inl (fun _ => 0))), (q7, .inl (w.2.1 0, 480, .inl (fun _ => 0)))]) 0 cf8 rfl (by decide) rfl rfl rfl rfl rfl (Nat.le_of_ble_eq_true rfl) gl_8_30 rfl d_X8_init_61 rfl ?_
  refine pa_aload 0 d_X8_init_64 rfl rfl rfl ?_
  refine pa_get (j := 0) 0 cf8 rfl (by decide) rfl gl_8_9 d_X8_init_65 rfl ?_
  refine pa_iconst (v := -1) d_X8_init_68 (by decide +kernel) rfl ?_
  refine pa_fill 1 rfl (by decide) cs_X8_33 (Nat.le_of_ble_eq_true rfl) (Nat.le_of_ble_eq_true rfl) (Nat.le_of_ble_eq_true rfl) (Nat.le_of_ble_eq_true rfl) (Nat.le_of_ble_eq_true rfl) d_X8_init_69 rfl (fun f8 hf8 => ?_)
  exact pa_vret rfl ⟨q1, q2, q3, q4, q5, q6, q7, f8, rfl, hf8⟩ (Nat.le_of_ble_eq_true rfl) (Nat.le_of_ble_eq_true rfl) d_X8_init_72
theorem d_X4_init_0 : decode prog_6_method_1_code 0 = .ok (.aload_n 0, 1) := by decide +kernel
theorem d_X4_init_1 : decode prog_6_method_1_code 1 = .ok (.invokespecial 3, 3) := by decide +kernel
theorem d_X4_init_4 : decode prog_6_method_1_code 4 = .ok (.aload_n 0, 1) := by decide +kernel
theorem d_X4_init_5 : decode prog_6_method_1_code 5 = .ok (.sipush 400, 3) := by decide +kernel
theorem d_X4_init_8 : decode prog_6_method_1_code 8 = .ok (.newarray .int, 2) := by decide +kernel
theorem d_X4_init_10 : decode prog_6_method_1_code 10 = .ok (.putfield 9, 3) := by decide +kernel
theorem d_X4_init_13 : decode prog_6_method_1_code 13 = .ok (.aload_n 0, 1) := by decide +kernel
theorem d_X4_init_14 : decode prog_6_method_1_code 14 = .ok (.sipush 3200, 3) := by decide +kernel
theorem d_X4_init_17 : decode prog_6_method_1_code 17 = .ok (.newarray .int, 2) := by decide +kernel
theorem d_X4_init_19 : decode prog_6_method_1_code 19 = .ok (.putfield 15, 3) := by decide +kernel
theorem d_X4_init_22 : decode prog_6_method_1_code 22 = .ok (.aload_n 0, 1) := by decide +kernel
theorem d_X4_init_23 : decode prog_6_method_1_code 23 = .ok (.bipush 8, 2) := by decide +kernel
theorem d_X4_init_25 : decode prog_6_method_1_code 25 = .ok (.newarray .int, 2) := by decide +kernel
theorem d_X4_init_27 : decode prog_6_method_1_code 27 = .ok (.putfield 18, 3) := by decide +kernel
theorem d_X4_init_30 : decode prog_6_method_1_code 30 = .ok (.aload_n 0, 1) := by decide +kernel
theorem d_X4_init_31 : decode prog_6_method_1_code 31 = .ok (.getfield 9, 3) := by decide +kernel
theorem d_X4_init_34 : decode prog_6_method_1_code 34 = .ok (.iconst (-1), 1) := by decide +kernel
theorem d_X4_init_35 : decode prog_6_method_1_code 35 = .ok (.invokestatic 21, 3) := by decide +kernel
theorem d_X4_init_38 : decode prog_6_method_1_code 38 = .ok (.return_, 1) := by decide +kernel
abbrev m_X4_init : Mt := (⟨"HeadNets$Net", "<init>", "()V"⟩, prog_6_method_1_code, 1, none)
theorem df_4 : ∀ j, j < 8 → defaultValue (tyc4 j) = vp_V [.null, .null, .null, .int 0, .int 0, .int 0, .int 0, .int 0] j := by
  intro j hj
  rcases (show j = 0 ∨ j = 1 ∨ j = 2 ∨ j = 3 ∨ j = 4 ∨ j = 5 ∨ j = 6 ∨ j = 7 by omega) with rfl | rfl | rfl | rfl | rfl | rfl | rfl | rfl <;> rfl
set_option maxRecDepth 20000 in
theorem xi_4 : Cond.initialized "HeadNets$Net" ∈ tb := tb1 9 rfl rfl
set_option maxRecDepth 20000 in
theorem xn_4 : Cond.instantiable "HeadNets$Net" 8 ∈ tb := tb1 178 rfl rfl
set_option maxRecDepth 20000 in
theorem xm_4 : Cond.instanceMethod m_X4_init.1 ∈ tb := tb1 180 rfl rfl
set_option maxRecDepth 20000 in
theorem xc_4 : Cond.code m_X4_init.1 m_X4_init.2.1 m_X4_init.2.2.1 m_X4_init.2.2.2 ∈ tb := tb1 181 rfl rfl
set_option maxRecDepth 20000 in
theorem ol_4_3 : Cond.methodLink "HeadNets$Net" 3 Lib.objectInit ∈ tb := tb1 182 rfl rfl
set_option maxRecDepth 20000 in
theorem gl_4_9 : Cond.fieldLink "HeadNets$Net" 9 "HeadNets$Net" "kinds" "[I" ∈ tb := tb1 184 rfl rfl
set_option maxRecDepth 20000 in
theorem gl_4_15 : Cond.fieldLink "HeadNets$Net" 15 "HeadNets$Net" "wires" "[I" ∈ tb := tb1 185 rfl rfl
set_option maxRecDepth 20000 in
theorem gl_4_18 : Cond.fieldLink "HeadNets$Net" 18 "HeadNets$Net" "ends" "[I" ∈ tb := tb1 186 rfl rfl
def Res_X4_init (w : Wo) (b : Nat) (w1 : va_W) : Prop := ∃ (q1 q2 q3 : Nat), ∃ (f4 : Nat → Int32), w1 = [(b, .inr (4, [.ref q1, .ref q2, .ref q3, .int 0, .int 0, .int 0, .int 0, .int 0])), (q1, .inl (w.2.1 0, 400, .inl f4)), (q2, .inl (w.2.1 0, 3200, .inl (fun _ => 0))), (q3, .inl (w.2.1 0, 8, .inl (fun _ => 0)))] ∧ (∀ j, j < 400 → f4 j = -1)
set_option maxRecDepth 100000 in
set_option maxHeartbeats 4000000 in
theorem ka_X4_init (l : Launch) (w : Wo) : KA l w m_X4_init 3 3 3608 4 [.null, .null, .null, .int 0, .int 0, .int 0, .int 0, .int 0] (Res_X4_init w) := by
  refine ka_of (plainFor_of_name (by decide +kernel)) 0 rfl (fun b sz => ?_)
  refine pa_aload 0 d_X4_init_0 rfl rfl rfl ?_
  refine pa_objInit ol_4_3 wo_i wo_c (Nat.le_of_ble_eq_true rfl) (Nat.le_of_ble_eq_true rfl) d_X4_init_1 rfl ?_
  refine pa_aload 0 d_X4_init_4 rfl rfl rfl ?_
  refine pa_sipush (v := 400) d_X4_init_5 (by decide +kernel) rfl ?_
  refine pa_newI (N := 400) (by decide) (by decide) (by decide) (Nat.le_of_ble_eq_true rfl) (Nat.le_of_ble_eq_true rfl) d_X4_init_8 rfl (fun q1 => ?_)
  refine pa_putF (j := 0) (ws' := [(b, .inr (4, [.ref q1, .null, .null, .int 0, .int 0, .int 0, .int 0, .int 0])), (q1, .inl (w.2.1 0, 400, .inl (fun _ => 0)))]) 0 cf4 rfl (by decide) rfl rfl rfl rfl rfl (Nat.le_of_ble_eq_true rfl) gl_4_9 rfl d_X4_init_10 rfl ?_
  refine pa_aload 0 d_X4_init_13 rfl rfl rfl ?_
  refine pa_sipush (v := 3200) d_X4_init_14 (by decide +kernel) rfl ?_
  refine pa_newI (N := 3200) (by decide) (by decide) (by decide) (Nat.le_of_ble_eq_true rfl) (Nat.le_of_ble_eq_true rfl) d_X4_init_17 rfl (fun q2 => ?_)
  refine pa_putF (j := 1) (ws' := [(b, .inr (4, [.ref q1, .ref q2, .null, .int 0, .int 0, .int 0, .int 0, .int 0])), (q1, .inl (w.2.1 0, 400, .inl (fun _ => 0))), (q2, .inl (w.2.1 0, 3200, .inl (fun _ => 0)))]) 0 cf4 rfl (by decide) rfl rfl rfl rfl rfl (Nat.le_of_ble_eq_true rfl) gl_4_15 rfl d_X4_init_19 rfl ?_
  refine pa_aload 0 d_X4_init_22 rfl rfl rfl ?_
  refine pa_bipush (v := 8) d_X4_init_23 (by decide +kernel) rfl ?_
  refine pa_newI (N := 8) (by decide) (by decide) (by decide) (Nat.le_of_ble_eq_true rfl) (Nat.le_of_ble_eq_true rfl) d_X4_init_25 rfl (fun q3 => ?_)
  refine pa_putF (j := 2) (ws' := [(b, .inr (4, [.ref q1, .ref q2, .ref q3, .int 0, .int 0, .int 0, .int 0, .int 0])), (q1, .inl (w.2.1 0, 400, .inl (fun _ => 0))), (q2, .inl (w.2.1 0, 3200, .inl (fun _ => 0))), (q3, .inl (w.2.1 0, 8, .inl (fun _ => 0)))]) 0 cf4 rfl (by decide) rfl rfl rfl rfl rfl (Nat.le_of_ble_eq_true rfl) gl_4_18 rfl d_X4_init_27 rfl ?_
  refine pa_aload 0 d_X4_init_30 rfl rfl rfl ?_
  refine pa_get (j := 0) 0 cf4 rfl (by decide) rfl gl_4_9 d_X4_init_31 rfl ?_
  refine pa_iconst (v := -1) d_X4_init_34 (by decide +kernel) rfl ?_
  refine pa_fill 1 rfl (by decide) cs_X4_21 (Nat.le_of_ble_eq_true rfl) (Nat.le_of_ble_eq_true rfl) (Nat.le_of_ble_eq_true rfl) (Nat.le_of_ble_eq_true rfl) (Nat.le_of_ble_eq_true rfl) d_X4_init_35 rfl (fun f4 hf4 => ?_)
  exact pa_vret rfl ⟨q1, q2, q3, f4, rfl, hf4⟩ (Nat.le_of_ble_eq_true rfl) (Nat.le_of_ble_eq_true rfl) d_X4_init_38
theorem d_X0_init_0 : decode prog_2_method_1_code 0 = .ok (.aload_n 0, 1) := by decide +kernel
theorem d_X0_init_1 : decode prog_2_method_1_code 1 = .ok (.invokespecial 3, 3) := by decide +kernel
theorem d_X0_init_4 : decode prog_2_method_1_code 4 = .ok (.aload_n 0, 1) := by decide +kernel
theorem d_X0_init_5 : decode prog_2_method_1_code 5 = .ok (.new 9, 3) := by decide +kernel
theorem d_X0_init_8 : decode prog_2_method_1_code 8 = .ok (.dup, 1) := by decide +kernel
theorem d_X0_init_9 : decode prog_2_method_1_code 9 = .ok (.invokespecial 11, 3) := by decide +kernel
theorem d_X0_init_12 : decode prog_2_method_1_code 12 = .ok (.putfield 12, 3) := by decide +kernel
theorem d_X0_init_15 : decode prog_2_method_1_code 15 = .ok (.aload_n 0, 1) := by decide +kernel
theorem d_X0_init_16 : decode prog_2_method_1_code 16 = .ok (.new 18, 3) := by decide +kernel
theorem d_X0_init_19 : decode prog_2_method_1_code 19 = .ok (.dup, 1) := by decide +kernel
theorem d_X0_init_20 : decode prog_2_method_1_code 20 = .ok (.invokespecial 20, 3) := by decide +kernel
theorem d_X0_init_23 : decode prog_2_method_1_code 23 = .ok (.putfield 21, 3) := by decide +kernel
theorem d_X0_init_26 : decode prog_2_method_1_code 26 = .ok (.aload_n 0, 1) := by decide +kernel
theorem d_X0_init_27 : decode prog_2_method_1_code 27 = .ok (.new 25, 3) := by decide +kernel
theorem d_X0_init_30 : decode prog_2_method_1_code 30 = .ok (.dup, 1) := by decide +kernel
theorem d_X0_init_31 : decode prog_2_method_1_code 31 = .ok (.invokespecial 27, 3) := by decide +kernel
theorem d_X0_init_34 : decode prog_2_method_1_code 34 = .ok (.putfield 28, 3) := by decide +kernel
theorem d_X0_init_37 : decode prog_2_method_1_code 37 = .ok (.return_, 1) := by decide +kernel
abbrev m_X0_init : Mt := (⟨"HeadNets$Book", "<init>", "()V"⟩, prog_2_method_1_code, 1, none)
theorem df_0 : ∀ j, j < 3 → defaultValue (tyc0 j) = vp_V [.null, .null, .null] j := by
  intro j hj
  rcases (show j = 0 ∨ j = 1 ∨ j = 2 by omega) with rfl | rfl | rfl <;> rfl
set_option maxRecDepth 20000 in
theorem xi_0 : Cond.initialized "HeadNets$Book" ∈ tb := tb1 5 rfl rfl
set_option maxRecDepth 20000 in
theorem xn_0 : Cond.instantiable "HeadNets$Book" 3 ∈ tb := tb1 116 rfl rfl
set_option maxRecDepth 20000 in
theorem xm_0 : Cond.instanceMethod m_X0_init.1 ∈ tb := tb1 118 rfl rfl
set_option maxRecDepth 20000 in
theorem xc_0 : Cond.code m_X0_init.1 m_X0_init.2.1 m_X0_init.2.2.1 m_X0_init.2.2.2 ∈ tb := tb1 119 rfl rfl
set_option maxRecDepth 20000 in
theorem ol_0_3 : Cond.methodLink "HeadNets$Book" 3 Lib.objectInit ∈ tb := tb1 120 rfl rfl
set_option maxRecDepth 20000 in
theorem cl_0_9 : Cond.classLink "HeadNets$Book" 9 "HeadNets$Kinds" ∈ tb := tb1 121 rfl rfl
set_option maxRecDepth 20000 in
theorem ic_0_11 : CO "HeadNets$Book" 11 m_X3_init 0 := ⟨Or.inr ⟨"HeadNets", tn1 123 rfl⟩, xi_3, xc_3, ⟨by decide +kernel, by decide +kernel, by decide +kernel⟩⟩
set_option maxRecDepth 20000 in
theorem gl_0_12 : Cond.fieldLink "HeadNets$Book" 12 "HeadNets$Book" "kinds" "LHeadNets$Kinds;" ∈ tb := tb1 219 rfl rfl
set_option maxRecDepth 20000 in
theorem cl_0_18 : Cond.classLink "HeadNets$Book" 18 "HeadNets$Rules" ∈ tb := tb1 142 rfl rfl
set_option maxRecDepth 20000 in
theorem ic_0_20 : CO "HeadNets$Book" 20 m_X8_init 0 := ⟨Or.inl (tb1 144 rfl rfl), xi_8, xc_8, ⟨by decide +kernel, by decide +kernel, by decide +kernel⟩⟩
set_option maxRecDepth 20000 in
theorem gl_0_21 : Cond.fieldLink "HeadNets$Book" 21 "HeadNets$Book" "rules" "LHeadNets$Rules;" ∈ tb := tb1 224 rfl rfl
set_option maxRecDepth 20000 in
theorem cl_0_25 : Cond.classLink "HeadNets$Book" 25 "HeadNets$Net" ∈ tb := tb1 177 rfl rfl
set_option maxRecDepth 20000 in
theorem ic_0_27 : CO "HeadNets$Book" 27 m_X4_init 0 := ⟨Or.inl (tb1 179 rfl rfl), xi_4, xc_4, ⟨by decide +kernel, by decide +kernel, by decide +kernel⟩⟩
set_option maxRecDepth 20000 in
theorem gl_0_28 : Cond.fieldLink "HeadNets$Book" 28 "HeadNets$Book" "net" "LHeadNets$Net;" ∈ tb := tb1 228 rfl rfl
def Res_X0_init (w : Wo) (b : Nat) (w1 : va_W) : Prop := ∃ (q1 q2 q3 q4 q5 q6 q7 q8 q9 q10 q11 q12 q14 q15 q16 q17 : Nat), ∃ (f13 f18 : Nat → Int32), w1 = [(b, .inr (0, [.ref q1, .ref q5, .ref q14])), (q1, .inr (3, [.ref q2, .ref q3, .ref q4, .int 0])), (q2, .inl (w.2.1 1, 16, .inr (.inl (fun _ => 0)))), (q3, .inl (w.2.1 0, 16, .inl (fun _ => 0))), (q4, .inl (w.2.1 0, 80, .inl (fun _ => 0))), (q5, .inr (8, [.ref q6, .ref q7, .ref q8, .ref q9, .ref q10, .ref q11, .ref q12, .int 0])), (q6, .inl (w.2.1 0, 256, .inl f13)), (q7, .inl (w.2.1 0, 60, .inl (fun _ => 0))), (q8, .inl (w.2.1 0, 60, .inl (fun _ => 0))), (q9, .inl (w.2.1 0, 60, .inl (fun _ => 0))), (q10, .inl (w.2.1 0, 720, .inl (fun _ => 0))), (q11, .inl (w.2.1 0, 5760, .inl (fun _ => 0))), (q12, .inl (w.2.1 0, 480, .inl (fun _ => 0))), (q14, .inr (4, [.ref q15, .ref q16, .ref q17, .int 0, .int 0, .int 0, .int 0, .int 0])), (q15, .inl (w.2.1 0, 400, .inl f18)), (q16, .inl (w.2.1 0, 3200, .inl (fun _ => 0))), (q17, .inl (w.2.1 0, 8, .inl (fun _ => 0)))] ∧ (∀ j, j < 256 → f13 j = -1) ∧ (∀ j, j < 400 → f18 j = -1)
set_option maxRecDepth 100000 in
set_option maxHeartbeats 4000000 in
theorem ka_X0_init (l : Launch) (w : Wo) : KA l w m_X0_init 4 16 11136 0 [.null, .null, .null] (Res_X0_init w) := by
  refine ka_of (plainFor_of_name (by decide +kernel)) 0 rfl (fun b sz => ?_)
  refine pa_aload 0 d_X0_init_0 rfl rfl rfl ?_
  refine pa_objInit ol_0_3 wo_i wo_c (Nat.le_of_ble_eq_true rfl) (Nat.le_of_ble_eq_true rfl) d_X0_init_1 rfl ?_
  refine pa_aload 0 d_X0_init_4 rfl rfl rfl ?_
  refine pa_new (fs := [.null, .null, .null, .int 0]) cf3 cl_0_9 xn_3 xi_3 df_3 (Nat.le_of_ble_eq_true rfl) (Nat.le_of_ble_eq_true rfl) d_X0_init_5 rfl (fun q1 => ?_)
  refine pa_dup d_X0_init_8 rfl rfl ?_
  refine pa_init (wr := [(b, .inr (0, [.null, .null, .null]))]) (ka_X3_init l w) ic_0_11 xm_3 rfl rfl rfl (Nat.le_of_ble_eq_true rfl) (Nat.le_of_ble_eq_true rfl) (Nat.le_of_ble_eq_true rfl) (Nat.le_of_ble_eq_true rfl) (Nat.le_of_ble_eq_true rfl) d_X0_init_9 rfl (fun w1 hw1 => ?_)
  obtain ⟨q2, q3, q4, rfl⟩ := hw1
  refine pa_putF (j := 0) (ws' := [(b, .inr (0, [.ref q1, .null, .null])), (q1, .inr (3, [.ref q2, .ref q3, .ref q4, .int 0])), (q2, .inl (w.2.1 1, 16, .inr (.inl (fun _ => 0)))), (q3, .inl (w.2.1 0, 16, .inl (fun _ => 0))), (q4, .inl (w.2.1 0, 80, .inl (fun _ => 0)))]) 0 cf0 rfl (by decide) rfl rfl rfl rfl rfl (Nat.le_of_ble_eq_true rfl) gl_0_12 rfl d_X0_init_12 rfl ?_
  refine pa_aload 0 d_X0_init_15 rfl rfl rfl ?_
  refine pa_new (fs := [.null, .null, .null, .null, .null, .null, .null, .int 0]) cf8 cl_0_18 xn_8 xi_8 df_8 (Nat.le_of_ble_eq_true rfl) (Nat.le_of_ble_eq_true rfl) d_X0_init_16 rfl (fun q5 => ?_)
  refine pa_dup d_X0_init_19 rfl rfl ?_
  refine pa_init (wr := [(b, .inr (0, [.ref q1, .null, .null])), (q1, .inr (3, [.ref q2, .ref q3, .ref q4, .int 0])), (q2, .inl (w.2.1 1, 16, .inr (.inl (fun _ => 0)))), (q3, .inl (w.2.1 0, 16, .inl (fun _ => 0))), (q4, .inl (w.2.1 0, 80, .inl (fun _ => 0)))]) (ka_X8_init l w) ic_0_20 xm_8 rfl rfl rfl (Nat.le_of_ble_eq_true rfl) (Nat.le_of_ble_eq_true rfl) (Nat.le_of_ble_eq_true rfl) (Nat.le_of_ble_eq_true rfl) (Nat.le_of_ble_eq_true rfl) d_X0_init_20 rfl (fun w1 hw1 => ?_)
  obtain ⟨q6, q7, q8, q9, q10, q11, q12, f13, rfl, hf13⟩ := hw1
  refine pa_putF (j := 1) (ws' := [(b, .inr (0, [.ref q1, .ref q5, .null])), (q1, .inr (3, [.ref q2, .ref q3, .ref q4, .int 0])), (q2, .inl (w.2.1 1, 16, .inr (.inl (fun _ => 0)))), (q3, .inl (w.2.1 0, 16, .inl (fun _ => 0))), (q4, .inl (w.2.1 0, 80, .inl (fun _ => 0))), (q5, .inr (8, [.ref q6, .ref q7, .ref q8, .ref q9, .ref q10, .ref q11, .ref q12, .int 0])), (q6, .inl (w.2.1 0, 256, .inl f13)), (q7, .inl (w.2.1 0, 60, .inl (fun _ => 0))), (q8, .inl (w.2.1 0, 60, .inl (fun _ => 0))), (q9, .inl (w.2.1 0, 60, .inl (fun _ => 0))), (q10, .inl (w.2.1 0, 720, .inl (fun _ => 0))), (q11, .inl (w.2.1 0, 5760, .inl (fun _ => 0))), (q12, .inl (w.2.1 0, 480, .inl (fun _ => 0)))]) 0 cf0 rfl (by decide) rfl rfl rfl rfl rfl (Nat.le_of_ble_eq_true rfl) gl_0_21 rfl d_X0_init_23 rfl ?_
  refine pa_aload 0 d_X0_init_26 rfl rfl rfl ?_
  refine pa_new (fs := [.null, .null, .null, .int 0, .int 0, .int 0, .int 0, .int 0]) cf4 cl_0_25 xn_4 xi_4 df_4 (Nat.le_of_ble_eq_true rfl) (Nat.le_of_ble_eq_true rfl) d_X0_init_27 rfl (fun q14 => ?_)
  refine pa_dup d_X0_init_30 rfl rfl ?_
  refine pa_init (wr := [(b, .inr (0, [.ref q1, .ref q5, .null])), (q1, .inr (3, [.ref q2, .ref q3, .ref q4, .int 0])), (q2, .inl (w.2.1 1, 16, .inr (.inl (fun _ => 0)))), (q3, .inl (w.2.1 0, 16, .inl (fun _ => 0))), (q4, .inl (w.2.1 0, 80, .inl (fun _ => 0))), (q5, .inr (8, [.ref q6, .ref q7, .ref q8, .ref q9, .ref q10, .ref q11, .ref q12, .int 0])), (q6, .inl (w.2.1 0, 256, .inl f13)), (q7, .inl (w.2.1 0, 60, .inl (fun _ => 0))), (q8, .inl (w.2.1 0, 60, .inl (fun _ => 0))), (q9, .inl (w.2.1 0, 60, .inl (fun _ => 0))), (q10, .inl (w.2.1 0, 720, .inl (fun _ => 0))), (q11, .inl (w.2.1 0, 5760, .inl (fun _ => 0))), (q12, .inl (w.2.1 0, 480, .inl (fun _ => 0)))]) (ka_X4_init l w) ic_0_27 xm_4 rfl rfl rfl (Nat.le_of_ble_eq_true rfl) (Nat.le_of_ble_eq_true rfl) (Nat.le_of_ble_eq_true rfl) (Nat.le_of_ble_eq_true rfl) (Nat.le_of_ble_eq_true rfl) d_X0_init_31 rfl (fun w1 hw1 => ?_)
  obtain ⟨q15, q16, q17, f18, rfl, hf18⟩ := hw1
  refine pa_putF (j := 2) (ws' := [(b, .inr (0, [.ref q1, .ref q5, .ref q14])), (q1, .inr (3, [.ref q2, .ref q3, .ref q4, .int 0])), (q2, .inl (w.2.1 1, 16, .inr (.inl (fun _ => 0)))), (q3, .inl (w.2.1 0, 16, .inl (fun _ => 0))), (q4, .inl (w.2.1 0, 80, .inl (fun _ => 0))), (q5, .inr (8, [.ref q6, .ref q7, .ref q8, .ref q9, .ref q10, .ref q11, .ref q12, .int 0])), (q6, .inl (w.2.1 0, 256, .inl f13)), (q7, .inl (w.2.1 0, 60, .inl (fun _ => 0))), (q8, .inl (w.2.1 0, 60, .inl (fun _ => 0))), (q9, .inl (w.2.1 0, 60, .inl (fun _ => 0))), (q10, .inl (w.2.1 0, 720, .inl (fun _ => 0))), (q11, .inl (w.2.1 0, 5760, .inl (fun _ => 0))), (q12, .inl (w.2.1 0, 480, .inl (fun _ => 0))), (q14, .inr (4, [.ref q15, .ref q16, .ref q17, .int 0, .int 0, .int 0, .int 0, .int 0])), (q15, .inl (w.2.1 0, 400, .inl f18)), (q16, .inl (w.2.1 0, 3200, .inl (fun _ => 0))), (q17, .inl (w.2.1 0, 8, .inl (fun _ => 0)))]) 0 cf0 rfl (by decide) rfl rfl rfl rfl rfl (Nat.le_of_ble_eq_true rfl) gl_0_28 rfl d_X0_init_34 rfl ?_
  exact pa_vret rfl ⟨q1, q2, q3, q4, q5, q6, q7, q8, q9, q10, q11, q12, q14, q15, q16, q17, f13, f18, rfl, hf13, hf18⟩ (Nat.le_of_ble_eq_true rfl) (Nat.le_of_ble_eq_true rfl) d_X0_init_37
theorem d_X6_init_0 : decode prog_8_method_1_code 0 = .ok (.aload_n 0, 1) := by decide +kernel
theorem d_X6_init_1 : decode prog_8_method_1_code 1 = .ok (.invokespecial 3, 3) := by decide +kernel
theorem d_X6_init_4 : decode prog_8_method_1_code 4 = .ok (.aload_n 0, 1) := by decide +kernel
theorem d_X6_init_5 : decode prog_8_method_1_code 5 = .ok (.new 9, 3) := by decide +kernel
theorem d_X6_init_8 : decode prog_8_method_1_code 8 = .ok (.dup, 1) := by decide +kernel
theorem d_X6_init_9 : decode prog_8_method_1_code 9 = .ok (.invokespecial 11, 3) := by decide +kernel
theorem d_X6_init_12 : decode prog_8_method_1_code 12 = .ok (.putfield 12, 3) := by decide +kernel
theorem d_X6_init_15 : decode prog_8_method_1_code 15 = .ok (.aload_n 0, 1) := by decide +kernel
theorem d_X6_init_16 : decode prog_8_method_1_code 16 = .ok (.iconst 2, 1) := by decide +kernel
theorem d_X6_init_17 : decode prog_8_method_1_code 17 = .ok (.newarray .int, 2) := by decide +kernel
theorem d_X6_init_19 : decode prog_8_method_1_code 19 = .ok (.putfield 18, 3) := by decide +kernel
theorem d_X6_init_22 : decode prog_8_method_1_code 22 = .ok (.aload_n 0, 1) := by decide +kernel
theorem d_X6_init_23 : decode prog_8_method_1_code 23 = .ok (.new 22, 3) := by decide +kernel
theorem d_X6_init_26 : decode prog_8_method_1_code 26 = .ok (.dup, 1) := by decide +kernel
theorem d_X6_init_27 : decode prog_8_method_1_code 27 = .ok (.invokespecial 24, 3) := by decide +kernel
theorem d_X6_init_30 : decode prog_8_method_1_code 30 = .ok (.putfield 25, 3) := by decide +kernel
theorem d_X6_init_33 : decode prog_8_method_1_code 33 = .ok (.aload_n 0, 1) := by decide +kernel
theorem d_X6_init_34 : decode prog_8_method_1_code 34 = .ok (.new 29, 3) := by decide +kernel
theorem d_X6_init_37 : decode prog_8_method_1_code 37 = .ok (.dup, 1) := by decide +kernel
theorem d_X6_init_38 : decode prog_8_method_1_code 38 = .ok (.invokespecial 31, 3) := by decide +kernel
theorem d_X6_init_41 : decode prog_8_method_1_code 41 = .ok (.putfield 32, 3) := by decide +kernel
theorem d_X6_init_44 : decode prog_8_method_1_code 44 = .ok (.aload_n 0, 1) := by decide +kernel
theorem d_X6_init_45 : decode prog_8_method_1_code 45 = .ok (.iconst (-1), 1) := by decide +kernel
theorem d_X6_init_46 : decode prog_8_method_1_code 46 = .ok (.putfield 36, 3) := by decide +kernel
theorem d_X6_init_49 : decode prog_8_method_1_code 49 = .ok (.return_, 1) := by decide +kernel
abbrev m_X6_init : Mt := (⟨"HeadNets$Reader", "<init>", "()V"⟩, prog_8_method_1_code, 1, none)
theorem df_6 : ∀ j, j < 8 → defaultValue (tyc6 j) = vp_V [.null, .null, .int 0, .int 0, .int 0, .null, .null, .int 0] j := by
  intro j hj
  rcases (show j = 0 ∨ j = 1 ∨ j = 2 ∨ j = 3 ∨ j = 4 ∨ j = 5 ∨ j = 6 ∨ j = 7 by omega) with rfl | rfl | rfl | rfl | rfl | rfl | rfl | rfl <;> rfl
set_option maxRecDepth 20000 in
theorem xi_6 : Cond.initialized "HeadNets$Reader" ∈ tb := tb1 2 rfl rfl
set_option maxRecDepth 20000 in
theorem xn_6 : Cond.instantiable "HeadNets$Reader" 8 ∈ tb := tb1 31 rfl rfl
set_option maxRecDepth 20000 in
theorem xm_6 : Cond.instanceMethod m_X6_init.1 ∈ tb := tb1 33 rfl rfl
set_option maxRecDepth 20000 in
theorem xc_6 : Cond.code m_X6_init.1 m_X6_init.2.1 m_X6_init.2.2.1 m_X6_init.2.2.2 ∈ tb := tb1 34 rfl rfl
set_option maxRecDepth 20000 in
theorem ol_6_3 : Cond.methodLink "HeadNets$Reader" 3 Lib.objectInit ∈ tb := tb1 35 rfl rfl
set_option maxRecDepth 20000 in
theorem cl_6_9 : Cond.classLink "HeadNets$Reader" 9 "HeadNets$Draft" ∈ tb := tb1 36 rfl rfl
set_option maxRecDepth 20000 in
theorem ic_6_11 : CO "HeadNets$Reader" 11 m_X1_init 0 := ⟨Or.inr ⟨"HeadNets", tn1 38 rfl⟩, xi_1, xc_1, ⟨by decide +kernel, by decide +kernel, by decide +kernel⟩⟩
set_option maxRecDepth 20000 in
theorem gl_6_12 : Cond.fieldLink "HeadNets$Reader" 12 "HeadNets$Reader" "draft" "LHeadNets$Draft;" ∈ tb := tb2 0 rfl rfl
set_option maxRecDepth 20000 in
theorem gl_6_18 : Cond.fieldLink "HeadNets$Reader" 18 "HeadNets$Reader" "sideKinds" "[I" ∈ tb := tb2 1 rfl rfl
set_option maxRecDepth 20000 in
theorem cl_6_22 : Cond.classLink "HeadNets$Reader" 22 "HeadNets$Tape" ∈ tb := tb1 72 rfl rfl
set_option maxRecDepth 20000 in
theorem ic_6_24 : CO "HeadNets$Reader" 24 m_X9_init 0 := ⟨Or.inr ⟨"HeadNets", tn1 74 rfl⟩, xi_9, xc_9, ⟨by decide +kernel, by decide +kernel, by decide +kernel⟩⟩
set_option maxRecDepth 20000 in
theorem gl_6_25 : Cond.fieldLink "HeadNets$Reader" 25 "HeadNets$Reader" "tape" "LHeadNets$Tape;" ∈ tb := tb2 5 rfl rfl
set_option maxRecDepth 20000 in
theorem cl_6_29 : Cond.classLink "HeadNets$Reader" 29 "HeadNets$Book" ∈ tb := tb1 115 rfl rfl
set_option maxRecDepth 20000 in
theorem ic_6_31 : CO "HeadNets$Reader" 31 m_X0_init 0 := ⟨Or.inr ⟨"HeadNets", tn1 117 rfl⟩, xi_0, xc_0, ⟨by decide +kernel, by decide +kernel, by decide +kernel⟩⟩
set_option maxRecDepth 20000 in
theorem gl_6_32 : Cond.fieldLink "HeadNets$Reader" 32 "HeadNets$Reader" "book" "LHeadNets$Book;" ∈ tb := tb2 7 rfl rfl
set_option maxRecDepth 20000 in
theorem gl_6_36 : Cond.fieldLink "HeadNets$Reader" 36 "HeadNets$Reader" "faultPlace" "I" ∈ tb := tb2 9 rfl rfl
def Res_X6_init (w : Wo) (b : Nat) (w1 : va_W) : Prop := ∃ (q1 q2 q3 q4 q5 q6 q7 q8 q9 q10 q11 q12 q13 q14 q15 q16 q17 q18 q19 q20 q21 q22 q23 q24 q25 q26 q27 q28 q29 : Nat), ∃ (f30 f31 : Nat → Int32), w1 = [(b, .inr (6, [.ref q1, .ref q7, .int 0, .int 0, .int 0, .ref q8, .ref q13, .int (-1)])), (q1, .inr (1, [.ref q2, .ref q3, .ref q4, .ref q5, .ref q6, .int 0, .int 0, .int 0])), (q2, .inl (w.2.1 0, 1728, .inl (fun _ => 0))), (q3, .inl (w.2.1 0, 200, .inl (fun _ => 0))), (q4, .inl (w.2.1 1, 60, .inr (.inl (fun _ => 0)))), (q5, .inl (w.2.1 0, 60, .inl (fun _ => 0))), (q6, .inl (w.2.1 3, 60, .inl (fun _ => 0))), (q7, .inl (w.2.1 0, 2, .inl (fun _ => 0))), (q8, .inr (9, [.ref q9, .ref q10, .ref q11, .ref q12, .int 0, .int 0, .int 0, .int 0, .int 0, .long 0])), (q9, .inl (w.2.1 2, 4000, .inl (fun _ => 0))), (q10, .inl (w.2.1 0, 4001, .inl (fun _ => 0))), (q11, .inl (w.2.1 0, 4001, .inl (fun _ => 0))), (q12, .inl (w.2.1 1, 4001, .inr (.inl (fun _ => 0)))), (q13, .inr (0, [.ref q14, .ref q18, .ref q26])), (q14, .inr (3, [.ref q15, .ref q16, .ref q17, .int 0])), (q15, .inl (w.2.1 1, 16, .inr (.inl (fun _ => 0)))), (q16, .inl (w.2.1 0, 16, .inl (fun _ => 0))), (q17, .inl (w.2.1 0, 80, .inl (fun _ => 0))), (q18, .inr (8, [.ref q19, .ref q20, .ref q21, .ref q22, .ref q23, .ref q24, .ref q25, .int 0])), (q19, .inl (w.2.1 0, 256, .inl f30)), (q20, .inl (w.2.1 0, 60, .inl (fun _ => 0))), (q21, .inl (w.2.1 0, 60, .inl (fun _ => 0))), (q22, .inl (w.2.1 0, 60, .inl (fun _ => 0))), (q23, .inl (w.2.1 0, 720, .inl (fun _ => 0))), (q24, .inl (w.2.1 0, 5760, .inl (fun _ => 0))), (q25, .inl (w.2.1 0, 480, .inl (fun _ => 0))), (q26, .inr (4, [.ref q27, .ref q28, .ref q29, .int 0, .int 0, .int 0, .int 0, .int 0])), (q27, .inl (w.2.1 0, 400, .inl f31)), (q28, .inl (w.2.1 0, 3200, .inl (fun _ => 0))), (q29, .inl (w.2.1 0, 8, .inl (fun _ => 0)))] ∧ (∀ j, j < 256 → f30 j = -1) ∧ (∀ j, j < 400 → f31 j = -1)
set_option maxRecDepth 100000 in
set_option maxHeartbeats 4000000 in
theorem ka_X6_init (l : Launch) (w : Wo) : KA l w m_X6_init 5 29 29270 6 [.null, .null, .int 0, .int 0, .int 0, .null, .null, .int 0] (Res_X6_init w) := by
  refine ka_of (plainFor_of_name (by decide +kernel)) 0 rfl (fun b sz => ?_)
  refine pa_aload 0 d_X6_init_0 rfl rfl rfl ?_
  refine pa_objInit ol_6_3 wo_i wo_c (Nat.le_of_ble_eq_true rfl) (Nat.le_of_ble_eq_true rfl) d_X6_init_1 rfl ?_
  refine pa_aload 0 d_X6_init_4 rfl rfl rfl ?_
  refine pa_new (fs := [.null, .null, .null, .null, .null, .int 0, .int 0, .int 0]) cf1 cl_6_9 xn_1 xi_1 df_1 (Nat.le_of_ble_eq_true rfl) (Nat.le_of_ble_eq_true rfl) d_X6_init_5 rfl (fun q1 => ?_)
  refine pa_dup d_X6_init_8 rfl rfl ?_
  refine pa_init (wr := [(b, .inr (6, [.null, .null, .int 0, .int 0, .int 0, .null, .null, .int 0]))]) (ka_X1_init l w) ic_6_11 xm_1 rfl rfl rfl (Nat.le_of_ble_eq_true rfl) (Nat.le_of_ble_eq_true rfl) (Nat.le_of_ble_eq_true rfl) (Nat.le_of_ble_eq_true rfl) (Nat.le_of_ble_eq_true rfl) d_X6_init_9 rfl (fun w1 hw1 => ?_)
  obtain ⟨q2, q3, q4, q5, q6, rfl⟩ := hw1
  refine pa_putF (j := 0) (ws' := [(b, .inr (6, [.ref q1, .null, .int 0, .int 0, .int 0, .null, .null, .int 0])), (q1, .inr (1, [.ref q2, .ref q3, .ref q4, .ref q5, .ref q6, .int 0, .int 0, .int 0])), (q2, .inl (w.2.1 0, 1728, .inl (fun _ => 0))), (q3, .inl (w.2.1 0, 200, .inl (fun _ => 0))), (q4, .inl (w.2.1 1, 60, .inr (.inl (fun _ => 0)))), (q5, .inl (w.2.1 0, 60, .inl (fun _ => 0))), (q6, .inl (w.2.1 3, 60, .inl (fun _ => 0)))]) 0 cf6 rfl (by decide) rfl rfl rfl rfl rfl (Nat.le_of_ble_eq_true rfl) gl_6_12 rfl d_X6_init_12 rfl ?_
  refine pa_aload 0 d_X6_init_15 rfl rfl rfl ?_
  refine pa_iconst (v := 2) d_X6_init_16 (by decide +kernel) rfl ?_
  refine pa_newI (N := 2) (by decide) (by decide) (by decide) (Nat.le_of_ble_eq_true rfl) (Nat.le_of_ble_eq_true rfl) d_X6_init_17 rfl (fun q7 => ?_)
  refine pa_putF (j := 1) (ws' := [(b, .inr (6, [.ref q1, .ref q7, .int 0, .int 0, .int 0, .null, .null, .int 0])), (q1, .inr (1, [.ref q2, .ref q3, .ref q4, .ref q5, .ref q6, .int 0, .int 0, .int 0])), (q2, .inl (w.2.1 0, 1728, .inl (fun _ => 0))), (q3, .inl (w.2.1 0, 200, .inl (fun _ => 0))), (q4, .inl (w.2.1 1, 60, .inr (.inl (fun _ => 0)))), (q5, .inl (w.2.1 0, 60, .inl (fun _ => 0))), (q6, .inl (w.2.1 3, 60, .inl (fun _ => 0))), (q7, .inl (w.2.1 0, 2, .inl (fun _ => 0)))]) 0 cf6 rfl (by decide) rfl rfl rfl rfl rfl (Nat.le_of_ble_eq_true rfl) gl_6_18 rfl d_X6_init_19 rfl ?_
  refine pa_aload 0 d_X6_init_22 rfl rfl rfl ?_
  refine pa_new (fs := [.null, .null, .null, .null, .int 0, .int 0, .int 0, .int 0, .int 0, .long 0]) cf9 cl_6_22 xn_9 xi_9 df_9 (Nat.le_of_ble_eq_true rfl) (Nat.le_of_ble_eq_true rfl) d_X6_init_23 rfl (fun q8 => ?_)
  refine pa_dup d_X6_init_26 rfl rfl ?_
  refine pa_init (wr := [(b, .inr (6, [.ref q1, .ref q7, .int 0, .int 0, .int 0, .null, .null, .int 0])), (q1, .inr (1, [.ref q2, .ref q3, .ref q4, .ref q5, .ref q6, .int 0, .int 0, .int 0])), (q2, .inl (w.2.1 0, 1728, .inl (fun _ => 0))), (q3, .inl (w.2.1 0, 200, .inl (fun _ => 0))), (q4, .inl (w.2.1 1, 60, .inr (.inl (fun _ => 0)))), (q5, .inl (w.2.1 0, 60, .inl (fun _ => 0))), (q6, .inl (w.2.1 3, 60, .inl (fun _ => 0))), (q7, .inl (w.2.1 0, 2, .inl (fun _ => 0)))]) (ka_X9_init l w) ic_6_24 xm_9 rfl rfl rfl (Nat.le_of_ble_eq_true rfl) (Nat.le_of_ble_eq_true rfl) (Nat.le_of_ble_eq_true rfl) (Nat.le_of_ble_eq_true rfl) (Nat.le_of_ble_eq_true rfl) d_X6_init_27 rfl (fun w1 hw1 => ?_)
  obtain ⟨q9, q10, q11, q12, rfl⟩ := hw1
  refine pa_putF (j := 5) (ws' := [(b, .inr (6, [.ref q1, .ref q7, .int 0, .int 0, .int 0, .ref q8, .null, .int 0])), (q1, .inr (1, [.ref q2, .ref q3, .ref q4, .ref q5, .ref q6, .int 0, .int 0, .int 0])), (q2, .inl (w.2.1 0, 1728, .inl (fun _ => 0))), (q3, .inl (w.2.1 0, 200, .inl (fun _ => 0))), (q4, .inl (w.2.1 1, 60, .inr (.inl (fun _ => 0)))), (q5, .inl (w.2.1 0, 60, .inl (fun _ => 0))), (q6, .inl (w.2.1 3, 60, .inl (fun _ => 0))), (q7, .inl (w.2.1 0, 2, .inl (fun _ => 0))), (q8, .inr (9, [.ref q9, .ref q10, .ref q11, .ref q12, .int 0, .int 0, .int 0, .int 0, .int 0, .long 0])), (q9, .inl (w.2.1 2, 4000, .inl (fun _ => 0))), (q10, .inl (w.2.1 0, 4001, .inl (fun _ => 0))), (q11, .inl (w.2.1 0, 4001, .inl (fun _ => 0))), (q12, .inl (w.2.1 1, 4001, .inr (.inl (fun _ => 0))))]) 0 cf6 rfl (by decide) rfl rfl rfl rfl rfl (Nat.le_of_ble_eq_true rfl) gl_6_25 rfl d_X6_init_30 rfl ?_
  refine pa_aload 0 d_X6_init_33 rfl rfl rfl ?_
  refine pa_new (fs := [.null, .null, .null]) cf0 cl_6_29 xn_0 xi_0 df_0 (Nat.le_of_ble_eq_true rfl) (Nat.le_of_ble_eq_true rfl) d_X6_init_34 rfl (fun q13 => ?_)
  refine pa_dup d_X6_init_37 rfl rfl ?_
  refine pa_init (wr := [(b, .inr (6, [.ref q1, .ref q7, .int 0, .int 0, .int 0, .ref q8, .null, .int 0])), (q1, .inr (1, [.ref q2, .ref q3, .ref q4, .ref q5, .ref q6, .int 0, .int 0, .int 0])), (q2, .inl (w.2.1 0, 1728, .inl (fun _ => 0))), (q3, .inl (w.2.1 0, 200, .inl (fun _ => 0))), (q4, .inl (w.2.1 1, 60, .inr (.inl (fun _ => 0)))), (q5, .inl (w.2.1 0, 60, .inl (fun _ => 0))), (q6, .inl (w.2.1 3, 60, .inl (fun _ => 0))), (q7, .inl (w.2.1 0, 2, .inl (fun _ => 0))), (q8, .inr (9, [.ref q9, .ref q10, .ref q11, .ref q12, .int 0, .int 0, .int 0, .int 0, .int 0, .long 0])), (q9, .inl (w.2.1 2, 4000, .inl (fun _ => 0))), (q10, .inl (w.2.1 0, 4001, .inl (fun _ => 0))), (q11, .inl (w.2.1 0, 4001, .inl (fun _ => 0))), (q12, .inl (w.2.1 1, 4001, .inr (.inl (fun _ => 0))))]) (ka_X0_init l w) ic_6_31 xm_0 rfl rfl rfl (Nat.le_of_ble_eq_true rfl) (Nat.le_of_ble_eq_true rfl) (Nat.le_of_ble_eq_true rfl) (Nat.le_of_ble_eq_true rfl) (Nat.le_of_ble_eq_true rfl) d_X6_init_38 rfl (fun w1 hw1 => ?_)
  obtain ⟨q14, q15, q16, q17, q18, q19, q20, q21, q22, q23, q24, q25, q26, q27, q28, q29, f30, f31, rfl, hf30, hf31⟩ := hw1
  refine pa_put (j := 6) (ws' := [(b, .inr (6, [.ref q1, .ref q7, .int 0, .int 0, .int 0, .ref q8, .ref q13, .int 0])), (q1, .inr (1, [.ref q2, .ref q3, .ref q4, .ref q5, .ref q6, .int 0, .int 0, .int 0])), (q2, .inl (w.2.1 0, 1728, .inl (fun _ => 0))), (q3, .inl (w.2.1 0, 200, .inl (fun _ => 0))), (q4, .inl (w.2.1 1, 60, .inr (.inl (fun _ => 0)))), (q5, .inl (w.2.1 0, 60, .inl (fun _ => 0))), (q6, .inl (w.2.1 3, 60, .inl (fun _ => 0))), (q7, .inl (w.2.1 0, 2, .inl (fun _ => 0))), (q8, .inr (9, [.ref q9, .ref q10, .ref q11, .ref q12, .int 0, .int 0, .int 0, .int 0, .int 0, .long 0])), (q9, .inl (w.2.1 2, 4000, .inl (fun _ => 0))), (q10, .inl (w.2.1 0, 4001, .inl (fun _ => 0))), (q11, .inl (w.2.1 0, 4001, .inl (fun _ => 0))), (q12, .inl (w.2.1 1, 4001, .inr (.inl (fun _ => 0)))), (q13, .inr (0, [.ref q14, .ref q18, .ref q26])), (q14, .inr (3, [.ref q15, .ref q16, .ref q17, .int 0])), (q15, .inl (w.2.1 1, 16, .inr (.inl (fun _ => 0)))), (q16, .inl (w.2.1 0, 16, .inl (fun _ => 0))), (q17, .inl (w.2.1 0, 80, .inl (fun _ => 0))), (q18, .inr (8, [.ref q19, .ref q20, .ref q21, .ref q22, .ref q23, .ref q24, .ref q25, .int 0])), (q19, .inl (w.2.1 0, 256, .inl f30)), (q20, .inl (w.2.1 0, 60, .inl (fun _ => 0))), (q21, .inl (w.2.1 0, 60, .inl (fun _ => 0))), (q22, .inl (w.2.1 0, 60, .inl (fun _ => 0))), (q23, .inl (w.2.1 0, 720, .inl (fun _ => 0))), (q24, .inl (w.2.1 0, 5760, .inl (fun _ => 0))), (q25, .inl (w.2.1 0, 480, .inl (fun _ => 0))), (q26, .inr (4, [.ref q27, .ref q28, .ref q29, .int 0, .int 0, .int 0, .int 0, .int 0])), (q27, .inl (w.2.1 0, 400, .inl f31)), (q28, .inl (w.2.1 0, 3200, .inl (fun _ => 0))), (q29, .inl (w.2.1 0, 8, .inl (fun _ => 0)))]) 0 cf6 rfl (by decide) rfl rfl rfl (Nat.le_of_ble_eq_true rfl) gl_6_32 rfl d_X6_init_41 rfl ?_
  refine pa_aload 0 d_X6_init_44 rfl rfl rfl ?_
  refine pa_iconst (v := -1) d_X6_init_45 (by decide +kernel) rfl ?_
  refine pa_put (j := 7) (ws' := [(b, .inr (6, [.ref q1, .ref q7, .int 0, .int 0, .int 0, .ref q8, .ref q13, .int (-1)])), (q1, .inr (1, [.ref q2, .ref q3, .ref q4, .ref q5, .ref q6, .int 0, .int 0, .int 0])), (q2, .inl (w.2.1 0, 1728, .inl (fun _ => 0))), (q3, .inl (w.2.1 0, 200, .inl (fun _ => 0))), (q4, .inl (w.2.1 1, 60, .inr (.inl (fun _ => 0)))), (q5, .inl (w.2.1 0, 60, .inl (fun _ => 0))), (q6, .inl (w.2.1 3, 60, .inl (fun _ => 0))), (q7, .inl (w.2.1 0, 2, .inl (fun _ => 0))), (q8, .inr (9, [.ref q9, .ref q10, .ref q11, .ref q12, .int 0, .int 0, .int 0, .int 0, .int 0, .long 0])), (q9, .inl (w.2.1 2, 4000, .inl (fun _ => 0))), (q10, .inl (w.2.1 0, 4001, .inl (fun _ => 0))), (q11, .inl (w.2.1 0, 4001, .inl (fun _ => 0))), (q12, .inl (w.2.1 1, 4001, .inr (.inl (fun _ => 0)))), (q13, .inr (0, [.ref q14, .ref q18, .ref q26])), (q14, .inr (3, [.ref q15, .ref q16, .ref q17, .int 0])), (q15, .inl (w.2.1 1, 16, .inr (.inl (fun _ => 0)))), (q16, .inl (w.2.1 0, 16, .inl (fun _ => 0))), (q17, .inl (w.2.1 0, 80, .inl (fun _ => 0))), (q18, .inr (8, [.ref q19, .ref q20, .ref q21, .ref q22, .ref q23, .ref q24, .ref q25, .int 0])), (q19, .inl (w.2.1 0, 256, .inl f30)), (q20, .inl (w.2.1 0, 60, .inl (fun _ => 0))), (q21, .inl (w.2.1 0, 60, .inl (fun _ => 0))), (q22, .inl (w.2.1 0, 60, .inl (fun _ => 0))), (q23, .inl (w.2.1 0, 720, .inl (fun _ => 0))), (q24, .inl (w.2.1 0, 5760, .inl (fun _ => 0))), (q25, .inl (w.2.1 0, 480, .inl (fun _ => 0))), (q26, .inr (4, [.ref q27, .ref q28, .ref q29, .int 0, .int 0, .int 0, .int 0, .int 0])), (q27, .inl (w.2.1 0, 400, .inl f31)), (q28, .inl (w.2.1 0, 3200, .inl (fun _ => 0))), (q29, .inl (w.2.1 0, 8, .inl (fun _ => 0)))]) 0 cf6 rfl (by decide) rfl rfl rfl (Nat.le_of_ble_eq_true rfl) gl_6_36 rfl d_X6_init_46 rfl ?_
  exact pa_vret rfl ⟨q1, q2, q3, q4, q5, q6, q7, q8, q9, q10, q11, q12, q13, q14, q15, q16, q17, q18, q19, q20, q21, q22, q23, q24, q25, q26, q27, q28, q29, f30, f31, rfl, hf30, hf31⟩ (Nat.le_of_ble_eq_true rfl) (Nat.le_of_ble_eq_true rfl) d_X6_init_49
theorem d_X7_init_0 : decode prog_9_method_1_code 0 = .ok (.aload_n 0, 1) := by decide +kernel
theorem d_X7_init_1 : decode prog_9_method_1_code 1 = .ok (.invokespecial 3, 3) := by decide +kernel
theorem d_X7_init_4 : decode prog_9_method_1_code 4 = .ok (.aload_n 0, 1) := by decide +kernel
theorem d_X7_init_5 : decode prog_9_method_1_code 5 = .ok (.bipush 8, 2) := by decide +kernel
theorem d_X7_init_7 : decode prog_9_method_1_code 7 = .ok (.newarray .int, 2) := by decide +kernel
theorem d_X7_init_9 : decode prog_9_method_1_code 9 = .ok (.putfield 9, 3) := by decide +kernel
theorem d_X7_init_12 : decode prog_9_method_1_code 12 = .ok (.aload_n 0, 1) := by decide +kernel
theorem d_X7_init_13 : decode prog_9_method_1_code 13 = .ok (.bipush 8, 2) := by decide +kernel
theorem d_X7_init_15 : decode prog_9_method_1_code 15 = .ok (.newarray .int, 2) := by decide +kernel
theorem d_X7_init_17 : decode prog_9_method_1_code 17 = .ok (.putfield 15, 3) := by decide +kernel
theorem d_X7_init_20 : decode prog_9_method_1_code 20 = .ok (.aload_n 0, 1) := by decide +kernel
theorem d_X7_init_21 : decode prog_9_method_1_code 21 = .ok (.bipush 8, 2) := by decide +kernel
theorem d_X7_init_23 : decode prog_9_method_1_code 23 = .ok (.newarray .boolean, 2) := by decide +kernel
theorem d_X7_init_25 : decode prog_9_method_1_code 25 = .ok (.putfield 18, 3) := by decide +kernel
theorem d_X7_init_28 : decode prog_9_method_1_code 28 = .ok (.aload_n 0, 1) := by decide +kernel
theorem d_X7_init_29 : decode prog_9_method_1_code 29 = .ok (.bipush 12, 2) := by decide +kernel
theorem d_X7_init_31 : decode prog_9_method_1_code 31 = .ok (.newarray .int, 2) := by decide +kernel
theorem d_X7_init_33 : decode prog_9_method_1_code 33 = .ok (.putfield 22, 3) := by decide +kernel
theorem d_X7_init_36 : decode prog_9_method_1_code 36 = .ok (.return_, 1) := by decide +kernel
abbrev m_X7_init : Mt := (⟨"HeadNets$Rewriter", "<init>", "()V"⟩, prog_9_method_1_code, 1, none)
theorem df_7 : ∀ j, j < 4 → defaultValue (tyc7 j) = vp_V [.null, .null, .null, .null] j := by
  intro j hj
  rcases (show j = 0 ∨ j = 1 ∨ j = 2 ∨ j = 3 by omega) with rfl | rfl | rfl | rfl <;> rfl
set_option maxRecDepth 20000 in
theorem xi_7 : Cond.initialized "HeadNets$Rewriter" ∈ tb := tb1 10 rfl rfl
set_option maxRecDepth 20000 in
theorem xn_7 : Cond.instantiable "HeadNets$Rewriter" 4 ∈ tb := tb2 29 rfl rfl
set_option maxRecDepth 20000 in
theorem xm_7 : Cond.instanceMethod m_X7_init.1 ∈ tb := tb2 31 rfl rfl
set_option maxRecDepth 20000 in
theorem xc_7 : Cond.code m_X7_init.1 m_X7_init.2.1 m_X7_init.2.2.1 m_X7_init.2.2.2 ∈ tb := tb2 32 rfl rfl
set_option maxRecDepth 20000 in
theorem ol_7_3 : Cond.methodLink "HeadNets$Rewriter" 3 Lib.objectInit ∈ tb := tb2 33 rfl rfl
set_option maxRecDepth 20000 in
theorem gl_7_9 : Cond.fieldLink "HeadNets$Rewriter" 9 "HeadNets$Rewriter" "outerCodes" "[I" ∈ tb := tb2 34 rfl rfl
set_option maxRecDepth 20000 in
theorem gl_7_15 : Cond.fieldLink "HeadNets$Rewriter" 15 "HeadNets$Rewriter" "outerSlots" "[I" ∈ tb := tb2 35 rfl rfl
set_option maxRecDepth 20000 in
theorem gl_7_18 : Cond.fieldLink "HeadNets$Rewriter" 18 "HeadNets$Rewriter" "passed" "[Z" ∈ tb := tb2 36 rfl rfl
set_option maxRecDepth 20000 in
theorem gl_7_22 : Cond.fieldLink "HeadNets$Rewriter" 22 "HeadNets$Rewriter" "numbers" "[I" ∈ tb := tb2 37 rfl rfl
def Res_X7_init (w : Wo) (b : Nat) (w1 : va_W) : Prop := ∃ (q1 q2 q3 q4 : Nat), w1 = [(b, .inr (7, [.ref q1, .ref q2, .ref q3, .ref q4])), (q1, .inl (w.2.1 0, 8, .inl (fun _ => 0))), (q2, .inl (w.2.1 0, 8, .inl (fun _ => 0))), (q3, .inl (w.2.1 3, 8, .inl (fun _ => 0))), (q4, .inl (w.2.1 0, 12, .inl (fun _ => 0)))]
set_option maxRecDepth 100000 in
set_option maxHeartbeats 4000000 in
theorem ka_X7_init (l : Launch) (w : Wo) : KA l w m_X7_init 2 4 36 7 [.null, .null, .null, .null] (Res_X7_init w) := by
  refine ka_of (plainFor_of_name (by decide +kernel)) 0 rfl (fun b sz => ?_)
  refine pa_aload 0 d_X7_init_0 rfl rfl rfl ?_
  refine pa_objInit ol_7_3 wo_i wo_c (Nat.le_of_ble_eq_true rfl) (Nat.le_of_ble_eq_true rfl) d_X7_init_1 rfl ?_
  refine pa_aload 0 d_X7_init_4 rfl rfl rfl ?_
  refine pa_bipush (v := 8) d_X7_init_5 (by decide +kernel) rfl ?_
  refine pa_newI (N := 8) (by decide) (by decide) (by decide) (Nat.le_of_ble_eq_true rfl) (Nat.le_of_ble_eq_true rfl) d_X7_init_7 rfl (fun q1 => ?_)
  refine pa_putF (j := 0) (ws' := [(b, .inr (7, [.ref q1, .null, .null, .null])), (q1, .inl (w.2.1 0, 8, .inl (fun _ => 0)))]) 0 cf7 rfl (by decide) rfl rfl rfl rfl rfl (Nat.le_of_ble_eq_true rfl) gl_7_9 rfl d_X7_init_9 rfl ?_
  refine pa_aload 0 d_X7_init_12 rfl rfl rfl ?_
  refine pa_bipush (v := 8) d_X7_init_13 (by decide +kernel) rfl ?_
  refine pa_newI (N := 8) (by decide) (by decide) (by decide) (Nat.le_of_ble_eq_true rfl) (Nat.le_of_ble_eq_true rfl) d_X7_init_15 rfl (fun q2 => ?_)
  refine pa_putF (j := 1) (ws' := [(b, .inr (7, [.ref q1, .ref q2, .null, .null])), (q1, .inl (w.2.1 0, 8, .inl (fun _ => 0))), (q2, .inl (w.2.1 0, 8, .inl (fun _ => 0)))]) 0 cf7 rfl (by decide) rfl rfl rfl rfl rfl (Nat.le_of_ble_eq_true rfl) gl_7_15 rfl d_X7_init_17 rfl ?_
  refine pa_aload 0 d_X7_init_20 rfl rfl rfl ?_
  refine pa_bipush (v := 8) d_X7_init_21 (by decide +kernel) rfl ?_
  refine pa_newZ (N := 8) (by decide) (by decide) (by decide) (Nat.le_of_ble_eq_true rfl) (Nat.le_of_ble_eq_true rfl) d_X7_init_23 rfl (fun q3 => ?_)
  refine pa_putF (j := 2) (ws' := [(b, .inr (7, [.ref q1, .ref q2, .ref q3, .null])), (q1, .inl (w.2.1 0, 8, .inl (fun _ => 0))), (q2, .inl (w.2.1 0, 8, .inl (fun _ => 0))), (q3, .inl (w.2.1 3, 8, .inl (fun _ => 0)))]) 0 cf7 rfl (by decide) rfl rfl rfl rfl rfl (Nat.le_of_ble_eq_true rfl) gl_7_18 rfl d_X7_init_25 rfl ?_
  refine pa_aload 0 d_X7_init_28 rfl rfl rfl ?_
  refine pa_bipush (v := 12) d_X7_init_29 (by decide +kernel) rfl ?_
  refine pa_newI (N := 12) (by decide) (by decide) (by decide) (Nat.le_of_ble_eq_true rfl) (Nat.le_of_ble_eq_true rfl) d_X7_init_31 rfl (fun q4 => ?_)
  refine pa_putF (j := 3) (ws' := [(b, .inr (7, [.ref q1, .ref q2, .ref q3, .ref q4])), (q1, .inl (w.2.1 0, 8, .inl (fun _ => 0))), (q2, .inl (w.2.1 0, 8, .inl (fun _ => 0))), (q3, .inl (w.2.1 3, 8, .inl (fun _ => 0))), (q4, .inl (w.2.1 0, 12, .inl (fun _ => 0)))]) 0 cf7 rfl (by decide) rfl rfl rfl rfl rfl (Nat.le_of_ble_eq_true rfl) gl_7_22 rfl d_X7_init_33 rfl ?_
  exact pa_vret rfl ⟨q1, q2, q3, q4, rfl⟩ (Nat.le_of_ble_eq_true rfl) (Nat.le_of_ble_eq_true rfl) d_X7_init_36
theorem d_X2_init_0 : decode prog_4_method_1_code 0 = .ok (.aload_n 0, 1) := by decide +kernel
theorem d_X2_init_1 : decode prog_4_method_1_code 1 = .ok (.invokespecial 3, 3) := by decide +kernel
theorem d_X2_init_4 : decode prog_4_method_1_code 4 = .ok (.aload_n 0, 1) := by decide +kernel
theorem d_X2_init_5 : decode prog_4_method_1_code 5 = .ok (.bipush 50, 2) := by decide +kernel
theorem d_X2_init_7 : decode prog_4_method_1_code 7 = .ok (.newarray .int, 2) := by decide +kernel
theorem d_X2_init_9 : decode prog_4_method_1_code 9 = .ok (.putfield 11, 3) := by decide +kernel
theorem d_X2_init_12 : decode prog_4_method_1_code 12 = .ok (.return_, 1) := by decide +kernel
abbrev m_X2_init : Mt := (⟨"HeadNets$Journal", "<init>", "()V"⟩, prog_4_method_1_code, 1, none)
theorem df_2 : ∀ j, j < 5 → defaultValue (tyc2 j) = vp_V [.null, .int 0, .int 0, .int 0, .int 0] j := by
  intro j hj
  rcases (show j = 0 ∨ j = 1 ∨ j = 2 ∨ j = 3 ∨ j = 4 by omega) with rfl | rfl | rfl | rfl | rfl <;> rfl
set_option maxRecDepth 20000 in
theorem xi_2 : Cond.initialized "HeadNets$Journal" ∈ tb := tb1 11 rfl rfl
set_option maxRecDepth 20000 in
theorem xn_2 : Cond.instantiable "HeadNets$Journal" 5 ∈ tb := tb2 48 rfl rfl
set_option maxRecDepth 20000 in
theorem xm_2 : Cond.instanceMethod m_X2_init.1 ∈ tb := tb2 50 rfl rfl
set_option maxRecDepth 20000 in
theorem xc_2 : Cond.code m_X2_init.1 m_X2_init.2.1 m_X2_init.2.2.1 m_X2_init.2.2.2 ∈ tb := tb2 51 rfl rfl
set_option maxRecDepth 20000 in
theorem ol_2_3 : Cond.methodLink "HeadNets$Journal" 3 Lib.objectInit ∈ tb := tb2 52 rfl rfl
set_option maxRecDepth 20000 in
theorem gl_2_11 : Cond.fieldLink "HeadNets$Journal" 11 "HeadNets$Journal" "recent" "[I" ∈ tb := tb2 53 rfl rfl
def Res_X2_init (w : Wo) (b : Nat) (w1 : va_W) : Prop := ∃ (q1 : Nat), w1 = [(b, .inr (2, [.ref q1, .int 0, .int 0, .int 0, .int 0])), (q1, .inl (w.2.1 0, 50, .inl (fun _ => 0)))]
set_option maxRecDepth 100000 in
set_option maxHeartbeats 4000000 in
theorem ka_X2_init (l : Launch) (w : Wo) : KA l w m_X2_init 2 1 50 2 [.null, .int 0, .int 0, .int 0, .int 0] (Res_X2_init w) := by
  refine ka_of (plainFor_of_name (by decide +kernel)) 0 rfl (fun b sz => ?_)
  refine pa_aload 0 d_X2_init_0 rfl rfl rfl ?_
  refine pa_objInit ol_2_3 wo_i wo_c (Nat.le_of_ble_eq_true rfl) (Nat.le_of_ble_eq_true rfl) d_X2_init_1 rfl ?_
  refine pa_aload 0 d_X2_init_4 rfl rfl rfl ?_
  refine pa_bipush (v := 50) d_X2_init_5 (by decide +kernel) rfl ?_
  refine pa_newI (N := 50) (by decide) (by decide) (by decide) (Nat.le_of_ble_eq_true rfl) (Nat.le_of_ble_eq_true rfl) d_X2_init_7 rfl (fun q1 => ?_)
  refine pa_putF (j := 0) (ws' := [(b, .inr (2, [.ref q1, .int 0, .int 0, .int 0, .int 0])), (q1, .inl (w.2.1 0, 50, .inl (fun _ => 0)))]) 0 cf2 rfl (by decide) rfl rfl rfl rfl rfl (Nat.le_of_ble_eq_true rfl) gl_2_11 rfl d_X2_init_9 rfl ?_
  exact pa_vret rfl ⟨q1, rfl⟩ (Nat.le_of_ble_eq_true rfl) (Nat.le_of_ble_eq_true rfl) d_X2_init_12
theorem d_X10_init_0 : decode prog_12_method_1_code 0 = .ok (.aload_n 0, 1) := by decide +kernel
theorem d_X10_init_1 : decode prog_12_method_1_code 1 = .ok (.invokespecial 3, 3) := by decide +kernel
theorem d_X10_init_4 : decode prog_12_method_1_code 4 = .ok (.aload_n 0, 1) := by decide +kernel
theorem d_X10_init_5 : decode prog_12_method_1_code 5 = .ok (.sipush 400, 3) := by decide +kernel
theorem d_X10_init_8 : decode prog_12_method_1_code 8 = .ok (.newarray .int, 2) := by decide +kernel
theorem d_X10_init_10 : decode prog_12_method_1_code 10 = .ok (.putfield 9, 3) := by decide +kernel
theorem d_X10_init_13 : decode prog_12_method_1_code 13 = .ok (.aload_n 0, 1) := by decide +kernel
theorem d_X10_init_14 : decode prog_12_method_1_code 14 = .ok (.sipush 400, 3) := by decide +kernel
theorem d_X10_init_17 : decode prog_12_method_1_code 17 = .ok (.newarray .int, 2) := by decide +kernel
theorem d_X10_init_19 : decode prog_12_method_1_code 19 = .ok (.putfield 15, 3) := by decide +kernel
theorem d_X10_init_22 : decode prog_12_method_1_code 22 = .ok (.return_, 1) := by decide +kernel
abbrev m_X10_init : Mt := (⟨"HeadNets$Walk", "<init>", "()V"⟩, prog_12_method_1_code, 1, none)
theorem df_10 : ∀ j, j < 3 → defaultValue (tyc10 j) = vp_V [.null, .null, .int 0] j := by
  intro j hj
  rcases (show j = 0 ∨ j = 1 ∨ j = 2 by omega) with rfl | rfl | rfl <;> rfl
set_option maxRecDepth 20000 in
theorem xi_10 : Cond.initialized "HeadNets$Walk" ∈ tb := tb1 12 rfl rfl
set_option maxRecDepth 20000 in
theorem xn_10 : Cond.instantiable "HeadNets$Walk" 3 ∈ tb := tb2 76 rfl rfl
set_option maxRecDepth 20000 in
theorem xm_10 : Cond.instanceMethod m_X10_init.1 ∈ tb := tb2 78 rfl rfl
set_option maxRecDepth 20000 in
theorem xc_10 : Cond.code m_X10_init.1 m_X10_init.2.1 m_X10_init.2.2.1 m_X10_init.2.2.2 ∈ tb := tb2 79 rfl rfl
set_option maxRecDepth 20000 in
theorem ol_10_3 : Cond.methodLink "HeadNets$Walk" 3 Lib.objectInit ∈ tb := tb2 80 rfl rfl
set_option maxRecDepth 20000 in
theorem gl_10_9 : Cond.fieldLink "HeadNets$Walk" 9 "HeadNets$Walk" "order" "[I" ∈ tb := tb2 81 rfl rfl
set_option maxRecDepth 20000 in
theorem gl_10_15 : Cond.fieldLink "HeadNets$Walk" 15 "HeadNets$Walk" "numbers" "[I" ∈ tb := tb2 82 rfl rfl
def Res_X10_init (w : Wo) (b : Nat) (w1 : va_W) : Prop := ∃ (q1 q2 : Nat), w1 = [(b, .inr (10, [.ref q1, .ref q2, .int 0])), (q1, .inl (w.2.1 0, 400, .inl (fun _ => 0))), (q2, .inl (w.2.1 0, 400, .inl (fun _ => 0)))]
set_option maxRecDepth 100000 in
set_option maxHeartbeats 4000000 in
theorem ka_X10_init (l : Launch) (w : Wo) : KA l w m_X10_init 2 2 800 10 [.null, .null, .int 0] (Res_X10_init w) := by
  refine ka_of (plainFor_of_name (by decide +kernel)) 0 rfl (fun b sz => ?_)
  refine pa_aload 0 d_X10_init_0 rfl rfl rfl ?_
  refine pa_objInit ol_10_3 wo_i wo_c (Nat.le_of_ble_eq_true rfl) (Nat.le_of_ble_eq_true rfl) d_X10_init_1 rfl ?_
  refine pa_aload 0 d_X10_init_4 rfl rfl rfl ?_
  refine pa_sipush (v := 400) d_X10_init_5 (by decide +kernel) rfl ?_
  refine pa_newI (N := 400) (by decide) (by decide) (by decide) (Nat.le_of_ble_eq_true rfl) (Nat.le_of_ble_eq_true rfl) d_X10_init_8 rfl (fun q1 => ?_)
  refine pa_putF (j := 0) (ws' := [(b, .inr (10, [.ref q1, .null, .int 0])), (q1, .inl (w.2.1 0, 400, .inl (fun _ => 0)))]) 0 cf10 rfl (by decide) rfl rfl rfl rfl rfl (Nat.le_of_ble_eq_true rfl) gl_10_9 rfl d_X10_init_10 rfl ?_
  refine pa_aload 0 d_X10_init_13 rfl rfl rfl ?_
  refine pa_sipush (v := 400) d_X10_init_14 (by decide +kernel) rfl ?_
  refine pa_newI (N := 400) (by decide) (by decide) (by decide) (Nat.le_of_ble_eq_true rfl) (Nat.le_of_ble_eq_true rfl) d_X10_init_17 rfl (fun q2 => ?_)
  refine pa_putF (j := 1) (ws' := [(b, .inr (10, [.ref q1, .ref q2, .int 0])), (q1, .inl (w.2.1 0, 400, .inl (fun _ => 0))), (q2, .inl (w.2.1 0, 400, .inl (fun _ => 0)))]) 0 cf10 rfl (by decide) rfl rfl rfl rfl rfl (Nat.le_of_ble_eq_true rfl) gl_10_15 rfl d_X10_init_19 rfl ?_
  exact pa_vret rfl ⟨q1, q2, rfl⟩ (Nat.le_of_ble_eq_true rfl) (Nat.le_of_ble_eq_true rfl) d_X10_init_22
theorem d_X5_init_0 : decode prog_7_method_1_code 0 = .ok (.aload_n 0, 1) := by decide +kernel
theorem d_X5_init_1 : decode prog_7_method_1_code 1 = .ok (.invokespecial 3, 3) := by decide +kernel
theorem d_X5_init_4 : decode prog_7_method_1_code 4 = .ok (.aload_n 0, 1) := by decide +kernel
theorem d_X5_init_5 : decode prog_7_method_1_code 5 = .ok (.sipush 4000, 3) := by decide +kernel
theorem d_X5_init_8 : decode prog_7_method_1_code 8 = .ok (.newarray .byte, 2) := by decide +kernel
theorem d_X5_init_10 : decode prog_7_method_1_code 10 = .ok (.putfield 9, 3) := by decide +kernel
theorem d_X5_init_13 : decode prog_7_method_1_code 13 = .ok (.return_, 1) := by decide +kernel
abbrev m_X5_init : Mt := (⟨"HeadNets$Printer", "<init>", "()V"⟩, prog_7_method_1_code, 1, none)
theorem df_5 : ∀ j, j < 2 → defaultValue (tyc5 j) = vp_V [.null, .int 0] j := by
  intro j hj
  rcases (show j = 0 ∨ j = 1 by omega) with rfl | rfl <;> rfl
set_option maxRecDepth 20000 in
theorem xi_5 : Cond.initialized "HeadNets$Printer" ∈ tb := tb1 13 rfl rfl
set_option maxRecDepth 20000 in
theorem xn_5 : Cond.instantiable "HeadNets$Printer" 2 ∈ tb := tb2 93 rfl rfl
set_option maxRecDepth 20000 in
theorem xm_5 : Cond.instanceMethod m_X5_init.1 ∈ tb := tb2 95 rfl rfl
set_option maxRecDepth 20000 in
theorem xc_5 : Cond.code m_X5_init.1 m_X5_init.2.1 m_X5_init.2.2.1 m_X5_init.2.2.2 ∈ tb := tb2 96 rfl rfl
set_option maxRecDepth 20000 in
theorem ol_5_3 : Cond.methodLink "HeadNets$Printer" 3 Lib.objectInit ∈ tb := tb2 97 rfl rfl
set_option maxRecDepth 20000 in
theorem gl_5_9 : Cond.fieldLink "HeadNets$Printer" 9 "HeadNets$Printer" "bytes" "[B" ∈ tb := tb2 98 rfl rfl
def Res_X5_init (w : Wo) (b : Nat) (w1 : va_W) : Prop := ∃ (q1 : Nat), w1 = [(b, .inr (5, [.ref q1, .int 0])), (q1, .inl (w.2.1 2, 4000, .inl (fun _ => 0)))]
set_option maxRecDepth 100000 in
set_option maxHeartbeats 4000000 in
theorem ka_X5_init (l : Launch) (w : Wo) : KA l w m_X5_init 2 1 4000 5 [.null, .int 0] (Res_X5_init w) := by
  refine ka_of (plainFor_of_name (by decide +kernel)) 0 rfl (fun b sz => ?_)
  refine pa_aload 0 d_X5_init_0 rfl rfl rfl ?_
  refine pa_objInit ol_5_3 wo_i wo_c (Nat.le_of_ble_eq_true rfl) (Nat.le_of_ble_eq_true rfl) d_X5_init_1 rfl ?_
  refine pa_aload 0 d_X5_init_4 rfl rfl rfl ?_
  refine pa_sipush (v := 4000) d_X5_init_5 (by decide +kernel) rfl ?_
  refine pa_newB (N := 4000) (by decide) (by decide) (by decide) (Nat.le_of_ble_eq_true rfl) (Nat.le_of_ble_eq_true rfl) d_X5_init_8 rfl (fun q1 => ?_)
  refine pa_putF (j := 0) (ws' := [(b, .inr (5, [.ref q1, .int 0])), (q1, .inl (w.2.1 2, 4000, .inl (fun _ => 0)))]) 0 cf5 rfl (by decide) rfl rfl rfl rfl rfl (Nat.le_of_ble_eq_true rfl) gl_5_9 rfl d_X5_init_10 rfl ?_
  exact pa_vret rfl ⟨q1, rfl⟩ (Nat.le_of_ble_eq_true rfl) (Nat.le_of_ble_eq_true rfl) d_X5_init_13
theorem d_X11_init_0 : decode prog_1_method_1_code 0 = .ok (.aload_n 0, 1) := by decide +kernel
theorem d_X11_init_1 : decode prog_1_method_1_code 1 = .ok (.invokespecial 3, 3) := by decide +kernel
theorem d_X11_init_4 : decode prog_1_method_1_code 4 = .ok (.aload_n 0, 1) := by decide +kernel
theorem d_X11_init_5 : decode prog_1_method_1_code 5 = .ok (.new 9, 3) := by decide +kernel
theorem d_X11_init_8 : decode prog_1_method_1_code 8 = .ok (.dup, 1) := by decide +kernel
theorem d_X11_init_9 : decode prog_1_method_1_code 9 = .ok (.invokespecial 11, 3) := by decide +kernel
theorem d_X11_init_12 : decode prog_1_method_1_code 12 = .ok (.putfield 12, 3) := by decide +kernel
theorem d_X11_init_15 : decode prog_1_method_1_code 15 = .ok (.aload_n 0, 1) := by decide +kernel
theorem d_X11_init_16 : decode prog_1_method_1_code 16 = .ok (.new 16, 3) := by decide +kernel
theorem d_X11_init_19 : decode prog_1_method_1_code 19 = .ok (.dup, 1) := by decide +kernel
theorem d_X11_init_20 : decode prog_1_method_1_code 20 = .ok (.invokespecial 18, 3) := by decide +kernel
theorem d_X11_init_23 : decode prog_1_method_1_code 23 = .ok (.putfield 19, 3) := by decide +kernel
theorem d_X11_init_26 : decode prog_1_method_1_code 26 = .ok (.aload_n 0, 1) := by decide +kernel
theorem d_X11_init_27 : decode prog_1_method_1_code 27 = .ok (.new 23, 3) := by decide +kernel
theorem d_X11_init_30 : decode prog_1_method_1_code 30 = .ok (.dup, 1) := by decide +kernel
theorem d_X11_init_31 : decode prog_1_method_1_code 31 = .ok (.invokespecial 25, 3) := by decide +kernel
theorem d_X11_init_34 : decode prog_1_method_1_code 34 = .ok (.putfield 26, 3) := by decide +kernel
theorem d_X11_init_37 : decode prog_1_method_1_code 37 = .ok (.aload_n 0, 1) := by decide +kernel
theorem d_X11_init_38 : decode prog_1_method_1_code 38 = .ok (.iconst 4, 1) := by decide +kernel
theorem d_X11_init_39 : decode prog_1_method_1_code 39 = .ok (.anewarray 30, 3) := by decide +kernel
theorem d_X11_init_42 : decode prog_1_method_1_code 42 = .ok (.putfield 32, 3) := by decide +kernel
theorem d_X11_init_45 : decode prog_1_method_1_code 45 = .ok (.iconst 0, 1) := by decide +kernel
theorem d_X11_init_46 : decode prog_1_method_1_code 46 = .ok (.istore_n 1, 1) := by decide +kernel
theorem d_X11_init_47 : decode prog_1_method_1_code 47 = .ok (.iload_n 1, 1) := by decide +kernel
theorem d_X11_init_48 : decode prog_1_method_1_code 48 = .ok (.iconst 4, 1) := by decide +kernel
theorem d_X11_init_49 : decode prog_1_method_1_code 49 = .ok (.if_icmp .ge 22, 3) := by decide +kernel
theorem d_X11_init_52 : decode prog_1_method_1_code 52 = .ok (.aload_n 0, 1) := by decide +kernel
theorem d_X11_init_53 : decode prog_1_method_1_code 53 = .ok (.getfield 32, 3) := by decide +kernel
theorem d_X11_init_56 : decode prog_1_method_1_code 56 = .ok (.iload_n 1, 1) := by decide +kernel
theorem d_X11_init_57 : decode prog_1_method_1_code 57 = .ok (.new 30, 3) := by decide +kernel
theorem d_X11_init_60 : decode prog_1_method_1_code 60 = .ok (.dup, 1) := by decide +kernel
theorem d_X11_init_61 : decode prog_1_method_1_code 61 = .ok (.invokespecial 36, 3) := by decide +kernel
theorem d_X11_init_64 : decode prog_1_method_1_code 64 = .ok (.aastore, 1) := by decide +kernel
theorem d_X11_init_65 : decode prog_1_method_1_code 65 = .ok (.iinc 1 1, 3) := by decide +kernel
theorem d_X11_init_68 : decode prog_1_method_1_code 68 = .ok (.goto (-21), 3) := by decide +kernel
theorem d_X11_init_71 : decode prog_1_method_1_code 71 = .ok (.aload_n 0, 1) := by decide +kernel
theorem d_X11_init_72 : decode prog_1_method_1_code 72 = .ok (.sipush 400, 3) := by decide +kernel
theorem d_X11_init_75 : decode prog_1_method_1_code 75 = .ok (.newarray .int, 2) := by decide +kernel
theorem d_X11_init_77 : decode prog_1_method_1_code 77 = .ok (.putfield 37, 3) := by decide +kernel
theorem d_X11_init_80 : decode prog_1_method_1_code 80 = .ok (.aload_n 0, 1) := by decide +kernel
theorem d_X11_init_81 : decode prog_1_method_1_code 81 = .ok (.new 41, 3) := by decide +kernel
theorem d_X11_init_84 : decode prog_1_method_1_code 84 = .ok (.dup, 1) := by decide +kernel
theorem d_X11_init_85 : decode prog_1_method_1_code 85 = .ok (.invokespecial 43, 3) := by decide +kernel
theorem d_X11_init_88 : decode prog_1_method_1_code 88 = .ok (.putfield 44, 3) := by decide +kernel
theorem d_X11_init_91 : decode prog_1_method_1_code 91 = .ok (.aload_n 0, 1) := by decide +kernel
theorem d_X11_init_92 : decode prog_1_method_1_code 92 = .ok (.new 41, 3) := by decide +kernel
theorem d_X11_init_95 : decode prog_1_method_1_code 95 = .ok (.dup, 1) := by decide +kernel
theorem d_X11_init_96 : decode prog_1_method_1_code 96 = .ok (.invokespecial 43, 3) := by decide +kernel
theorem d_X11_init_99 : decode prog_1_method_1_code 99 = .ok (.putfield 48, 3) := by decide +kernel
theorem d_X11_init_102 : decode prog_1_method_1_code 102 = .ok (.aload_n 0, 1) := by decide +kernel
theorem d_X11_init_103 : decode prog_1_method_1_code 103 = .ok (.new 51, 3) := by decide +kernel
theorem d_X11_init_106 : decode prog_1_method_1_code 106 = .ok (.dup, 1) := by decide +kernel
theorem d_X11_init_107 : decode prog_1_method_1_code 107 = .ok (.invokespecial 53, 3) := by decide +kernel
theorem d_X11_init_110 : decode prog_1_method_1_code 110 = .ok (.putfield 54, 3) := by decide +kernel
theorem d_X11_init_113 : decode prog_1_method_1_code 113 = .ok (.aload_n 0, 1) := by decide +kernel
theorem d_X11_init_114 : decode prog_1_method_1_code 114 = .ok (.new 58, 3) := by decide +kernel
theorem d_X11_init_117 : decode prog_1_method_1_code 117 = .ok (.dup, 1) := by decide +kernel
theorem d_X11_init_118 : decode prog_1_method_1_code 118 = .ok (.invokespecial 60, 3) := by decide +kernel
theorem d_X11_init_121 : decode prog_1_method_1_code 121 = .ok (.putfield 61, 3) := by decide +kernel
theorem d_X11_init_124 : decode prog_1_method_1_code 124 = .ok (.aload_n 0, 1) := by decide +kernel
theorem d_X11_init_125 : decode prog_1_method_1_code 125 = .ok (.lconst 1, 1) := by decide +kernel
theorem d_X11_init_126 : decode prog_1_method_1_code 126 = .ok (.putfield 65, 3) := by decide +kernel
theorem d_X11_init_129 : decode prog_1_method_1_code 129 = .ok (.return_, 1) := by decide +kernel
abbrev m_X11_init : Mt := (⟨"HeadNets", "<init>", "()V"⟩, prog_1_method_1_code, 2, none)
theorem df_11 : ∀ j, j < 10 → defaultValue (tyc11 j) = vp_V [.null, .null, .null, .null, .null, .null, .null, .null, .null, .long 0] j := by
  intro j hj
  rcases (show j = 0 ∨ j = 1 ∨ j = 2 ∨ j = 3 ∨ j = 4 ∨ j = 5 ∨ j = 6 ∨ j = 7 ∨ j = 8 ∨ j = 9 by omega) with rfl | rfl | rfl | rfl | rfl | rfl | rfl | rfl | rfl | rfl <;> rfl
set_option maxRecDepth 20000 in
theorem xi_11 : Cond.initialized "HeadNets" ∈ tb := tb1 1 rfl rfl
set_option maxRecDepth 20000 in
theorem xn_11 : Cond.instantiable "HeadNets" 10 ∈ tb := tb1 23 rfl rfl
set_option maxRecDepth 20000 in
theorem xm_11 : Cond.instanceMethod m_X11_init.1 ∈ tb := tb1 25 rfl rfl
set_option maxRecDepth 20000 in
theorem xc_11 : Cond.code m_X11_init.1 m_X11_init.2.1 m_X11_init.2.2.1 m_X11_init.2.2.2 ∈ tb := tb1 26 rfl rfl
set_option maxRecDepth 20000 in
theorem ol_11_3 : Cond.methodLink "HeadNets" 3 Lib.objectInit ∈ tb := tb1 27 rfl rfl
set_option maxRecDepth 20000 in
theorem cl_11_9 : Cond.classLink "HeadNets" 9 "HeadNets$Reader" ∈ tb := tb1 30 rfl rfl
set_option maxRecDepth 20000 in
theorem ic_11_11 : CO "HeadNets" 11 m_X6_init 0 := ⟨Or.inr ⟨"HeadNets", tn1 32 rfl⟩, xi_6, xc_6, ⟨by decide +kernel, by decide +kernel, by decide +kernel⟩⟩
set_option maxRecDepth 20000 in
theorem gl_11_12 : Cond.fieldLink "HeadNets" 12 "HeadNets" "reader" "LHeadNets$Reader;" ∈ tb := tb2 108 rfl rfl
set_option maxRecDepth 20000 in
theorem cl_11_16 : Cond.classLink "HeadNets" 16 "HeadNets$Rewriter" ∈ tb := tb2 28 rfl rfl
set_option maxRecDepth 20000 in
theorem ic_11_18 : CO "HeadNets" 18 m_X7_init 0 := ⟨Or.inr ⟨"HeadNets", tn2 30 rfl⟩, xi_7, xc_7, ⟨by decide +kernel, by decide +kernel, by decide +kernel⟩⟩
set_option maxRecDepth 20000 in
theorem gl_11_19 : Cond.fieldLink "HeadNets" 19 "HeadNets" "rewriter" "LHeadNets$Rewriter;" ∈ tb := tb2 109 rfl rfl
set_option maxRecDepth 20000 in
theorem cl_11_23 : Cond.classLink "HeadNets" 23 "HeadNets$Journal" ∈ tb := tb2 47 rfl rfl
set_option maxRecDepth 20000 in
theorem ic_11_25 : CO "HeadNets" 25 m_X2_init 0 := ⟨Or.inr ⟨"HeadNets", tn2 49 rfl⟩, xi_2, xc_2, ⟨by decide +kernel, by decide +kernel, by decide +kernel⟩⟩
set_option maxRecDepth 20000 in
theorem gl_11_26 : Cond.fieldLink "HeadNets" 26 "HeadNets" "journal" "LHeadNets$Journal;" ∈ tb := tb2 110 rfl rfl
set_option maxRecDepth 20000 in
theorem cl_11_30 : Cond.classLink "HeadNets" 30 "HeadNets$Net" ∈ tb := tb2 72 rfl rfl
set_option maxRecDepth 20000 in
theorem gl_11_32 : Cond.fieldLink "HeadNets" 32 "HeadNets" "shelves" "[LHeadNets$Net;" ∈ tb := tb2 111 rfl rfl
set_option maxRecDepth 20000 in
theorem ic_11_36 : CO "HeadNets" 36 m_X4_init 0 := ⟨Or.inl (tb2 74 rfl rfl), xi_4, xc_4, ⟨by decide +kernel, by decide +kernel, by decide +kernel⟩⟩
set_option maxRecDepth 20000 in
theorem gl_11_37 : Cond.fieldLink "HeadNets" 37 "HeadNets" "roundPairs" "[I" ∈ tb := tb2 112 rfl rfl
set_option maxRecDepth 20000 in
theorem cl_11_41 : Cond.classLink "HeadNets" 41 "HeadNets$Walk" ∈ tb := tb2 75 rfl rfl
set_option maxRecDepth 20000 in
theorem ic_11_43 : CO "HeadNets" 43 m_X10_init 0 := ⟨Or.inr ⟨"HeadNets", tn2 77 rfl⟩, xi_10, xc_10, ⟨by decide +kernel, by decide +kernel, by decide +kernel⟩⟩
set_option maxRecDepth 20000 in
theorem gl_11_44 : Cond.fieldLink "HeadNets" 44 "HeadNets" "walk" "LHeadNets$Walk;" ∈ tb := tb2 113 rfl rfl
set_option maxRecDepth 20000 in
theorem gl_11_48 : Cond.fieldLink "HeadNets" 48 "HeadNets" "otherWalk" "LHeadNets$Walk;" ∈ tb := tb2 114 rfl rfl
set_option maxRecDepth 20000 in
theorem cl_11_51 : Cond.classLink "HeadNets" 51 "HeadNets$Printer" ∈ tb := tb2 92 rfl rfl
set_option maxRecDepth 20000 in
theorem ic_11_53 : CO "HeadNets" 53 m_X5_init 0 := ⟨Or.inr ⟨"HeadNets", tn2 94 rfl⟩, xi_5, xc_5, ⟨by decide +kernel, by decide +kernel, by decide +kernel⟩⟩
set_option maxRecDepth 20000 in
theorem gl_11_54 : Cond.fieldLink "HeadNets" 54 "HeadNets" "printer" "LHeadNets$Printer;" ∈ tb := tb2 115 rfl rfl
set_option maxRecDepth 20000 in
theorem cl_11_58 : Cond.classLink "HeadNets" 58 "HeadNets$Book" ∈ tb := tb2 106 rfl rfl
set_option maxRecDepth 20000 in
theorem ic_11_60 : CO "HeadNets" 60 m_X0_init 0 := ⟨Or.inr ⟨"HeadNets", tn2 107 rfl⟩, xi_0, xc_0, ⟨by decide +kernel, by decide +kernel, by decide +kernel⟩⟩
set_option maxRecDepth 20000 in
theorem gl_11_61 : Cond.fieldLink "HeadNets" 61 "HeadNets" "book" "LHeadNets$Book;" ∈ tb := tb2 116 rfl rfl
set_option maxRecDepth 20000 in
theorem gl_11_65 : Cond.fieldLink "HeadNets" 65 "HeadNets" "drawn" "J" ∈ tb := tb2 117 rfl rfl
def Res_X11_init (w : Wo) (b : Nat) (w1 : va_W) : Prop := ∃ (q1 q2 q3 q4 q5 q6 q7 q8 q9 q10 q11 q12 q13 q14 q15 q16 q17 q18 q19 q20 q21 q22 q23 q24 q25 q26 q27 q28 q29 q30 q33 q34 q35 q36 q37 q38 q39 q40 q41 q42 q43 q44 q46 q47 q48 q49 q51 q52 q53 q54 q56 q57 q58 q59 q61 q62 q63 q64 q65 q66 q67 q68 q69 q70 q71 q72 q73 q74 q75 q76 q77 q78 q79 q80 q81 q82 q83 q84 q85 q86 : Nat), ∃ (f31 f32 f45 f50 f55 f60 f87 f88 : Nat → Int32), w1 = [(b, .inr (11, [.ref q1, .ref q33, .ref q38, .ref q40, .ref q61, .ref q62, .ref q65, .ref q68, .ref q70, .long 1])), (q1, .inr (6, [.ref q2, .ref q8, .int 0, .int 0, .int 0, .ref q9, .ref q14, .int (-1)])), (q2, .inr (1, [.ref q3, .ref q4, .ref q5, .ref q6, .ref q7, .int 0, .int 0, .int 0])), (q3, .inl (w.2.1 0, 1728, .inl (fun _ => 0))), (q4, .inl (w.2.1 0, 200, .inl (fun _ => 0))), (q5, .inl (w.2.1 1, 60, .inr (.inl (fun _ => 0)))), (q6, .inl (w.2.1 0, 60, .inl (fun _ => 0))), (q7, .inl (w.2.1 3, 60, .inl (fun _ => 0))), (q8, .inl (w.2.1 0, 2, .inl (fun _ => 0))), (q9, .inr (9, [.ref q10, .ref q11, .ref q12, .ref q13, .int 0, .int 0, .int 0, .int 0, .int 0, .long 0])), (q10, .inl (w.2.1 2, 4000, .inl (fun _ => 0))), (q11, .inl (w.2.1 0, 4001, .inl (fun _ => 0))), (q12, .inl (w.2.1 0, 4001, .inl (fun _ => 0))), (q13, .inl (w.2.1 1, 4001, .inr (.inl (fun _ => 0)))), (q14, .inr (0, [.ref q15, .ref q19, .ref q27])), (q15, .inr (3, [.ref q16, .ref q17, .ref q18, .int 0])), (q16, .inl (w.2.1 1, 16, .inr (.inl (fun _ => 0)))), (q17, .inl (w.2.1 0, 16, .inl (fun _ => 0))), (q18, .inl (w.2.1 0, 80, .inl (fun _ => 0))), (q19, .inr (8, [.ref q20, .ref q21, .ref q22, .ref q23, .ref q24, .ref q25, .ref q26, .int 0])), (q20, .inl (w.2.1 0, 256, .inl f31)), (q21, .inl (w.2.1 0, 60, .inl (fun _ => 0))), (q22, .inl (w.2.1 0, 60, .inl (fun _ => 0))), (q23, .inl (w.2.1 0, 60, .inl (fun _ => 0))), (q24, .inl (w.2.1 0, 720, .inl (fun _ => 0))), (q25, .inl (w.2.1 0, 5760, .inl (fun _ => 0))), (q26, .inl (w.2.1 0, 480, .inl (fun _ => 0))), (q27, .inr (4, [.ref q28, .ref q29, .ref q30, .int 0, .int 0, .int 0, .int 0, .int 0])), (q28, .inl (w.2.1 0, 400, .inl f32)), (q29, .inl (w.2.1 0, 3200, .inl (fun _ => 0))), (q30, .inl (w.2.1 0, 8, .inl (fun _ => 0))), (q33, .inr (7, [.ref q34, .ref q35, .ref q36, .ref q37])), (q34, .inl (w.2.1 0, 8, .inl (fun _ => 0))), (q35, .inl (w.2.1 0, 8, .inl (fun _ => 0))), (q36, .inl (w.2.1 3, 8, .inl (fun _ => 0))), (q37, .inl (w.2.1 0, 12, .inl (fun _ => 0))), (q38, .inr (2, [.ref q39, .int 0, .int 0, .int 0, .int 0])), (q39, .inl (w.2.1 0, 50, .inl (fun _ => 0))), (q40, .inl (w.2.1 4, 4, .inr (.inr (.inr (.inr (va_up (va_up (va_up (va_up (fun _ => none) (0 : Int32).toNatClampNeg (some q41)) (1 : Int32).toNatClampNeg (some q46)) (2 : Int32).toNatClampNeg (some q51)) (3 : Int32).toNatClampNeg (some q56))))))), (q41, .inr (4, [.ref q42, .ref q43, .ref q44, .int 0, .int 0, .int 0, .int 0, .int 0])), (q42, .inl (w.2.1 0, 400, .inl f45)), (q43, .inl (w.2.1 0, 3200, .inl (fun _ => 0))), (q44, .inl (w.2.1 0, 8, .inl (fun _ => 0))), (q46, .inr (4, [.ref q47, .ref q48, .ref q49, .int 0, .int 0, .int 0, .int 0, .int 0])), (q47, .inl (w.2.1 0, 400, .inl f50)), (q48, .inl (w.2.1 0, 3200, .inl (fun _ => 0))), (q49, .inl (w.2.1 0, 8, .inl (fun _ => 0))), (q51, .inr (4, [.ref q52, .ref q53, .ref q54, .int 0, .int 0, .int 0, .int 0, .int 0])), (q52, .inl (w.2.1 0, 400, .inl f55)), (q53, .inl (w.2.1 0, 3200, .inl (fun _ => 0))), (q54, .inl (w.2.1 0, 8, .inl (fun _ => 0))), (q56, .inr (4, [.ref q57, .ref q58, .ref q59, .int 0, .int 0, .int 0, .int 0, .int 0])), (q57, .inl (w.2.1 0, 400, .inl f60)), (q58, .inl (w.2.1 0, 3200, .inl (fun _ => 0))), (q59, .inl (w.2.1 0, 8, .inl (fun _ => 0))), (q61, .inl (w.2.1 0, 400, .inl (fun _ => 0))), (q62, .inr (10, [.ref q63, .ref q64, .int 0])), (q63, .inl (w.2.1 0, 400, .inl (fun _ => 0))), (q64, .inl (w.2.1 0, 400, .inl (fun _ => 0))), (q65, .inr (10, [.ref q66, .ref q67, .int 0])), (q66, .inl (w.2.1 0, 400, .inl (fun _ => 0))), (q67, .inl (w.2.1 0, 400, .inl (fun _ => 0))), (q68, .inr (5, [.ref q69, .int 0])), (q69, .inl (w.2.1 2, 4000, .inl (fun _ => 0))), (q70, .inr (0, [.ref q71, .ref q75, .ref q83])), (q71, .inr (3, [.ref q72, .ref q73, .ref q74, .int 0])), (q72, .inl (w.2.1 1, 16, .inr (.inl (fun _ => 0)))), (q73, .inl (w.2.1 0, 16, .inl (fun _ => 0))), (q74, .inl (w.2.1 0, 80, .inl (fun _ => 0))), (q75, .inr (8, [.ref q76, .ref q77, .ref q78, .ref q79, .ref q80, .ref q81, .ref q82, .int 0])), (q76, .inl (w.2.1 0, 256, .inl f87)), (q77, .inl (w.2.1 0, 60, .inl (fun _ => 0))), (q78, .inl (w.2.1 0, 60, .inl (fun _ => 0))), (q79, .inl (w.2.1 0, 60, .inl (fun _ => 0))), (q80, .inl (w.2.1 0, 720, .inl (fun _ => 0))), (q81, .inl (w.2.1 0, 5760, .inl (fun _ => 0))), (q82, .inl (w.2.1 0, 480, .inl (fun _ => 0))), (q83, .inr (4, [.ref q84, .ref q85, .ref q86, .int 0, .int 0, .int 0, .int 0, .int 0])), (q84, .inl (w.2.1 0, 400, .inl f88)), (q85, .inl (w.2.1 0, 3200, .inl (fun _ => 0))), (q86, .inl (w.2.1 0, 8, .inl (fun _ => 0)))] ∧ (∀ j, j < 256 → f31 j = -1) ∧ (∀ j, j < 400 → f32 j = -1) ∧ (∀ j, j < 400 → f45 j = -1) ∧ (∀ j, j < 400 → f50 j = -1) ∧ (∀ j, j < 400 → f55 j = -1) ∧ (∀ j, j < 400 → f60 j = -1) ∧ (∀ j, j < 256 → f87 j = -1) ∧ (∀ j, j < 400 → f88 j = -1)
set_option maxRecDepth 100000 in
set_option maxHeartbeats 4000000 in
theorem ka_X11_init (l : Launch) (w : Wo) : KA l w m_X11_init 6 80 60988 11 [.null, .null, .null, .null, .null, .null, .null, .null, .null, .long 0] (Res_X11_init w) := by
  refine ka_of (plainFor_of_name (by decide +kernel)) 1 rfl (fun b sz => ?_)
  refine pa_aload 0 d_X11_init_0 rfl rfl rfl ?_
  refine pa_objInit ol_11_3 wo_i wo_c (Nat.le_of_ble_eq_true rfl) (Nat.le_of_ble_eq_true rfl) d_X11_init_1 rfl ?_
  refine pa_aload 0 d_X11_init_4 rfl rfl rfl ?_
  refine pa_new (fs := [.null, .null, .int 0, .int 0, .int 0, .null, .null, .int 0]) cf6 cl_11_9 xn_6 xi_6 df_6 (Nat.le_of_ble_eq_true rfl) (Nat.le_of_ble_eq_true rfl) d_X11_init_5 rfl (fun q1 => ?_)
  refine pa_dup d_X11_init_8 rfl rfl ?_
  refine pa_init (wr := [(b, .inr (11, [.null, .null, .null, .null, .null, .null, .null, .null, .null, .long 0]))]) (ka_X6_init l w) ic_11_11 xm_6 rfl rfl rfl (Nat.le_of_ble_eq_true rfl) (Nat.le_of_ble_eq_true rfl) (Nat.le_of_ble_eq_true rfl) (Nat.le_of_ble_eq_true rfl) (Nat.le_of_ble_eq_true rfl) d_X11_init_9 rfl (fun w1 hw1 => ?_)
  obtain ⟨q2, q3, q4, q5, q6, q7, q8, q9, q10, q11, q12, q13, q14, q15, q16, q17, q18, q19, q20, q21, q22, q23, q24, q25, q26, q27, q28, q29, q30, f31, f32, rfl, hf31, hf32⟩ := hw1
  refine pa_putF (j := 0) (ws' := [(b, .inr (11, [.ref q1, .null, .null, .null, .null, .null, .null, .null, .null, .long 0])), (q1, .inr (6, [.ref q2, .ref q8, .int 0, .int 0, .int 0, .ref q9, .ref q14, .int (-1)])), (q2, .inr (1, [.ref q3, .ref q4, .ref q5, .ref q6, .ref q7, .int 0, .int 0, .int 0])), (q3, .inl (w.2.1 0, 1728, .inl (fun _ => 0))), (q4, .inl (w.2.1 0, 200, .inl (fun _ => 0))), (q5, .inl (w.2.1 1, 60, .inr (.inl (fun _ => 0)))), (q6, .inl (w.2.1 0, 60, .inl (fun _ => 0))), (q7, .inl (w.2.1 3, 60, .inl (fun _ => 0))), (q8, .inl (w.2.1 0, 2, .inl (fun _ => 0))), (q9, .inr (9, [.ref q10, .ref q11, .ref q12, .ref q13, .int 0, .int 0, .int 0, .int 0, .int 0, .long 0])), (q10, .inl (w.2.1 2, 4000, .inl (fun _ => 0))), (q11, .inl (w.2.1 0, 4001, .inl (fun _ => 0))), (q12, .inl (w.2.1 0, 4001, .inl (fun _ => 0))), (q13, .inl (w.2.1 1, 4001, .inr (.inl (fun _ => 0)))), (q14, .inr (0, [.ref q15, .ref q19, .ref q27])), (q15, .inr (3, [.ref q16, .ref q17, .ref q18, .int 0])), (q16, .inl (w.2.1 1, 16, .inr (.inl (fun _ => 0)))), (q17, .inl (w.2.1 0, 16, .inl (fun _ => 0))), (q18, .inl (w.2.1 0, 80, .inl (fun _ => 0))), (q19, .inr (8, [.ref q20, .ref q21, .ref q22, .ref q23, .ref q24, .ref q25, .ref q26, .int 0])), (q20, .inl (w.2.1 0, 256, .inl f31)), (q21, .inl (w.2.1 0, 60, .inl (fun _ => 0))), (q22, .inl (w.2.1 0, 60, .inl (fun _ => 0))), (q23, .inl (w.2.1 0, 60, .inl (fun _ => 0))), (q24, .inl (w.2.1 0, 720, .inl (fun _ => 0))), (q25, .inl (w.2.1 0, 5760, .inl (fun _ => 0))), (q26, .inl (w.2.1 0, 480, .inl (fun _ => 0))), (q27, .inr (4, [.ref q28, .ref q29, .ref q30, .int 0, .int 0, .int 0, .int 0, .int 0])), (q28, .inl (w.2.1 0, 400, .inl f32)), (q29, .inl (w.2.1 0, 3200, .inl (fun _ => 0))), (q30, .inl (w.2.1 0, 8, .inl (fun _ => 0)))]) 0 cf11 rfl (by decide) rfl rfl rfl rfl rfl (Nat.le_of_ble_eq_true rfl) gl_11_12 rfl d_X11_init_12 rfl ?_
  refine pa_aload 0 d_X11_init_15 rfl rfl rfl ?_
  refine pa_new (fs := [.null, .null, .null, .null]) cf7 cl_11_16 xn_7 xi_7 df_7 (Nat.le_of_ble_eq_true rfl) (Nat.le_of_ble_eq_true rfl) d_X11_init_16 rfl (fun q33 => ?_)
  refine pa_dup d_X11_init_19 rfl rfl ?_
  refine pa_init (wr := [(b, .inr (11, [.ref q1, .null, .null, .null, .null, .null, .null, .null, .null, .long 0])), (q1, .inr (6, [.ref q2, .ref q8, .int 0, .int 0, .int 0, .ref q9, .ref q14, .int (-1)])), (q2, .inr (1, [.ref q3, .ref q4, .ref q5, .ref q6, .ref q7, .int 0, .int 0, .int 0])), (q3, .inl (w.2.1 0, 1728, .inl (fun _ => 0))), (q4, .inl (w.2.1 0, 200, .inl (fun _ => 0))), (q5, .inl (w.2.1 1, 60, .inr (.inl (fun _ => 0)))), (q6, .inl (w.2.1 0, 60, .inl (fun _ => 0))), (q7, .inl (w.2.1 3, 60, .inl (fun _ => 0))), (q8, .inl (w.2.1 0, 2, .inl (fun _ => 0))), (q9, .inr (9, [.ref q10, .ref q11, .ref q12, .ref q13, .int 0, .int 0, .int 0, .int 0, .int 0, .long 0])), (q10, .inl (w.2.1 2, 4000, .inl (fun _ => 0))), (q11, .inl (w.2.1 0, 4001, .inl (fun _ => 0))), (q12, .inl (w.2.1 0, 4001, .inl (fun _ => 0))), (q13, .inl (w.2.1 1, 4001, .inr (.inl (fun _ => 0)))), (q14, .inr (0, [.ref q15, .ref q19, .ref q27])), (q15, .inr (3, [.ref q16, .ref q17, .ref q18, .int 0])), (q16, .inl (w.2.1 1, 16, .inr (.inl (fun _ => 0)))), (q17, .inl (w.2.1 0, 16, .inl (fun _ => 0))), (q18, .inl (w.2.1 0, 80, .inl (fun _ => 0))), (q19, .inr (8, [.ref q20, .ref q21, .ref q22, .ref q23, .ref q24, .ref q25, .ref q26, .int 0])), (q20, .inl (w.2.1 0, 256, .inl f31)), (q21, .inl (w.2.1 0, 60, .inl (fun _ => 0))), (q22, .inl (w.2.1 0, 60, .inl (fun _ => 0))), (q23, .inl (w.2.1 0, 60, .inl (fun _ => 0))), (q24, .inl (w.2.1 0, 720, .inl (fun _ => 0))), (q25, .inl (w.2.1 0, 5760, .inl (fun _ => 0))), (q26, .inl (w.2.1 0, 480, .inl (fun _ => 0))), (q27, .inr (4, [.ref q28, .ref q29, .ref q30, .int 0, .int 0, .int 0, .int 0, .int 0])), (q28, .inl (w.2.1 0, 400, .inl f32)), (q29, .inl (w.2.1 0, 3200, .inl (fun _ => 0))), (q30, .inl (w.2.1 0, 8, .inl (fun _ => 0)))]) (ka_X7_init l w) ic_11_18 xm_7 rfl rfl rfl (Nat.le_of_ble_eq_true rfl) (Nat.le_of_ble_eq_true rfl) (Nat.le_of_ble_eq_true rfl) (Nat.le_of_ble_eq_true rfl) (Nat.le_of_ble_eq_true rfl) d_X11_init_20 rfl (fun w1 hw1 => ?_)
  obtain ⟨q34, q35, q36, q37, rfl⟩ := hw1
  refine pa_putF (j := 1) (ws' := [(b, .inr (11, [.ref q1, .ref q33, .null, .null, .null, .null, .null, .null, .null, .long 0])), (q1, .inr (6, [.ref q2, .ref q8, .int 0, .int 0, .int 0, .ref q9, .ref q14, .int (-1)])), (q2, .inr (1, [.ref q3, .ref q4, .ref q5, .ref q6, .ref q7, .int 0, .int 0, .int 0])), (q3, .inl (w.2.1 0, 1728, .inl (fun _ => 0))), (q4, .inl (w.2.1 0, 200, .inl (fun _ => 0))), (q5, .inl (w.2.1 1, 60, .inr (.inl (fun _ => 0)))), (q6, .inl (w.2.1 0, 60, .inl (fun _ => 0))), (q7, .inl (w.2.1 3, 60, .inl (fun _ => 0))), (q8, .inl (w.2.1 0, 2, .inl (fun _ => 0))), (q9, .inr (9, [.ref q10, .ref q11, .ref q12, .ref q13, .int 0, .int 0, .int 0, .int 0, .int 0, .long 0])), (q10, .inl (w.2.1 2, 4000, .inl (fun _ => 0))), (q11, .inl (w.2.1 0, 4001, .inl (fun _ => 0))), (q12, .inl (w.2.1 0, 4001, .inl (fun _ => 0))), (q13, .inl (w.2.1 1, 4001, .inr (.inl (fun _ => 0)))), (q14, .inr (0, [.ref q15, .ref q19, .ref q27])), (q15, .inr (3, [.ref q16, .ref q17, .ref q18, .int 0])), (q16, .inl (w.2.1 1, 16, .inr (.inl (fun _ => 0)))), (q17, .inl (w.2.1 0, 16, .inl (fun _ => 0))), (q18, .inl (w.2.1 0, 80, .inl (fun _ => 0))), (q19, .inr (8, [.ref q20, .ref q21, .ref q22, .ref q23, .ref q24, .ref q25, .ref q26, .int 0])), (q20, .inl (w.2.1 0, 256, .inl f31)), (q21, .inl (w.2.1 0, 60, .inl (fun _ => 0))), (q22, .inl (w.2.1 0, 60, .inl (fun _ => 0))), (q23, .inl (w.2.1 0, 60, .inl (fun _ => 0))), (q24, .inl (w.2.1 0, 720, .inl (fun _ => 0))), (q25, .inl (w.2.1 0, 5760, .inl (fun _ => 0))), (q26, .inl (w.2.1 0, 480, .inl (fun _ => 0))), (q27, .inr (4, [.ref q28, .ref q29, .ref q30, .int 0, .int 0, .int 0, .int 0, .int 0])), (q28, .inl (w.2.1 0, 400, .inl f32)), (q29, .inl (w.2.1 0, 3200, .inl (fun _ => 0))), (q30, .inl (w.2.1 0, 8, .inl (fun _ => 0))), (q33, .inr (7, [.ref q34, .ref q35, .ref q36, .ref q37])), (q34, .inl (w.2.1 0, 8, .inl (fun _ => 0))), (q35, .inl (w.2.1 0, 8, .inl (fun _ => 0))), (q36, .inl (w.2.1 3, 8, .inl (fun _ => 0))), (q37, .inl (w.2.1 0, 12, .inl (fun _ => 0)))]) 0 cf11 rfl (by decide) rfl rfl rfl rfl rfl (Nat.le_of_ble_eq_true rfl) gl_11_19 rfl d_X11_init_23 rfl ?_
  refine pa_aload 0 d_X11_init_26 rfl rfl rfl ?_
  refine pa_new (fs := [.null, .int 0, .int 0, .int 0, .int 0]) cf2 cl_11_23 xn_2 xi_2 df_2 (Nat.le_of_ble_eq_true rfl) (Nat.le_of_ble_eq_true rfl) d_X11_init_27 rfl (fun q38 => ?_)
  refine pa_dup d_X11_init_30 rfl rfl ?_
  refine pa_init (wr := [(b, .inr (11, [.ref q1, .ref q33, .null, .null, .null, .null, .null, .null, .null, .long 0])), (q1, .inr (6, [.ref q2, .ref q8, .int 0, .int 0, .int 0, .ref q9, .ref q14, .int (-1)])), (q2, .inr (1, [.ref q3, .ref q4, .ref q5, .ref q6, .ref q7, .int 0, .int 0, .int 0])), (q3, .inl (w.2.1 0, 1728, .inl (fun _ => 0))), (q4, .inl (w.2.1 0, 200, .inl (fun _ => 0))), (q5, .inl (w.2.1 1, 60, .inr (.inl (fun _ => 0)))), (q6, .inl (w.2.1 0, 60, .inl (fun _ => 0))), (q7, .inl (w.2.1 3, 60, .inl (fun _ => 0))), (q8, .inl (w.2.1 0, 2, .inl (fun _ => 0))), (q9, .inr (9, [.ref q10, .ref q11, .ref q12, .ref q13, .int 0, .int 0, .int 0, .int 0, .int 0, .long 0])), (q10, .inl (w.2.1 2, 4000, .inl (fun _ => 0))), (q11, .inl (w.2.1 0, 4001, .inl (fun _ => 0))), (q12, .inl (w.2.1 0, 4001, .inl (fun _ => 0))), (q13, .inl (w.2.1 1, 4001, .inr (.inl (fun _ => 0)))), (q14, .inr (0, [.ref q15, .ref q19, .ref q27])), (q15, .inr (3, [.ref q16, .ref q17, .ref q18, .int 0])), (q16, .inl (w.2.1 1, 16, .inr (.inl (fun _ => 0)))), (q17, .inl (w.2.1 0, 16, .inl (fun _ => 0))), (q18, .inl (w.2.1 0, 80, .inl (fun _ => 0))), (q19, .inr (8, [.ref q20, .ref q21, .ref q22, .ref q23, .ref q24, .ref q25, .ref q26, .int 0])), (q20, .inl (w.2.1 0, 256, .inl f31)), (q21, .inl (w.2.1 0, 60, .inl (fun _ => 0))), (q22, .inl (w.2.1 0, 60, .inl (fun _ => 0))), (q23, .inl (w.2.1 0, 60, .inl (fun _ => 0))), (q24, .inl (w.2.1 0, 720, .inl (fun _ => 0))), (q25, .inl (w.2.1 0, 5760, .inl (fun _ => 0))), (q26, .inl (w.2.1 0, 480, .inl (fun _ => 0))), (q27, .inr (4, [.ref q28, .ref q29, .ref q30, .int 0, .int 0, .int 0, .int 0, .int 0])), (q28, .inl (w.2.1 0, 400, .inl f32)), (q29, .inl (w.2.1 0, 3200, .inl (fun _ => 0))), (q30, .inl (w.2.1 0, 8, .inl (fun _ => 0))), (q33, .inr (7, [.ref q34, .ref q35, .ref q36, .ref q37])), (q34, .inl (w.2.1 0, 8, .inl (fun _ => 0))), (q35, .inl (w.2.1 0, 8, .inl (fun _ => 0))), (q36, .inl (w.2.1 3, 8, .inl (fun _ => 0))), (q37, .inl (w.2.1 0, 12, .inl (fun _ => 0)))]) (ka_X2_init l w) ic_11_25 xm_2 rfl rfl rfl (Nat.le_of_ble_eq_true rfl) (Nat.le_of_ble_eq_true rfl) (Nat.le_of_ble_eq_true rfl) (Nat.le_of_ble_eq_true rfl) (Nat.le_of_ble_eq_true rfl) d_X11_init_31 rfl (fun w1 hw1 => ?_)
  obtain ⟨q39, rfl⟩ := hw1
  refine pa_putF (j := 2) (ws' := [(b, .inr (11, [.ref q1, .ref q33, .ref q38, .null, .null, .null, .null, .null, .null, .long 0])), (q1, .inr (6, [.ref q2, .ref q8, .int 0, .int 0, .int 0, .ref q9, .ref q14, .int (-1)])), (q2, .inr (1, [.ref q3, .ref q4, .ref q5, .ref q6, .ref q7, .int 0, .int 0, .int 0])), (q3, .inl (w.2.1 0, 1728, .inl (fun _ => 0))), (q4, .inl (w.2.1 0, 200, .inl (fun _ => 0))), (q5, .inl (w.2.1 1, 60, .inr (.inl (fun _ => 0)))), (q6, .inl (w.2.1 0, 60, .inl (fun _ => 0))), (q7, .inl (w.2.1 3, 60, .inl (fun _ => 0))), (q8, .inl (w.2.1 0, 2, .inl (fun _ => 0))), (q9, .inr (9, [.ref q10, .ref q11, .ref q12, .ref q13, .int 0, .int 0, .int 0, .int 0, .int 0, .long 0])), (q10, .inl (w.2.1 2, 4000, .inl (fun _ => 0))), (q11, .inl (w.2.1 0, 4001, .inl (fun _ => 0))), (q12, .inl (w.2.1 0, 4001, .inl (fun _ => 0))), (q13, .inl (w.2.1 1, 4001, .inr (.inl (fun _ => 0)))), (q14, .inr (0, [.ref q15, .ref q19, .ref q27])), (q15, .inr (3, [.ref q16, .ref q17, .ref q18, .int 0])), (q16, .inl (w.2.1 1, 16, .inr (.inl (fun _ => 0)))), (q17, .inl (w.2.1 0, 16, .inl (fun _ => 0))), (q18, .inl (w.2.1 0, 80, .inl (fun _ => 0))), (q19, .inr (8, [.ref q20, .ref q21, .ref q22, .ref q23, .ref q24, .ref q25, .ref q26, .int 0])), (q20, .inl (w.2.1 0, 256, .inl f31)), (q21, .inl (w.2.1 0, 60, .inl (fun _ => 0))), (q22, .inl (w.2.1 0, 60, .inl (fun _ => 0))), (q23, .inl (w.2.1 0, 60, .inl (fun _ => 0))), (q24, .inl (w.2.1 0, 720, .inl (fun _ => 0))), (q25, .inl (w.2.1 0, 5760, .inl (fun _ => 0))), (q26, .inl (w.2.1 0, 480, .inl (fun _ => 0))), (q27, .inr (4, [.ref q28, .ref q29, .ref q30, .int 0, .int 0, .int 0, .int 0, .int 0])), (q28, .inl (w.2.1 0, 400, .inl f32)), (q29, .inl (w.2.1 0, 3200, .inl (fun _ => 0))), (q30, .inl (w.2.1 0, 8, .inl (fun _ => 0))), (q33, .inr (7, [.ref q34, .ref q35, .ref q36, .ref q37])), (q34, .inl (w.2.1 0, 8, .inl (fun _ => 0))), (q35, .inl (w.2.1 0, 8, .inl (fun _ => 0))), (q36, .inl (w.2.1 3, 8, .inl (fun _ => 0))), (q37, .inl (w.2.1 0, 12, .inl (fun _ => 0))), (q38, .inr (2, [.ref q39, .int 0, .int 0, .int 0, .int 0])), (q39, .inl (w.2.1 0, 50, .inl (fun _ => 0)))]) 0 cf11 rfl (by decide) rfl rfl rfl rfl rfl (Nat.le_of_ble_eq_true rfl) gl_11_26 rfl d_X11_init_34 rfl ?_
  refine pa_aload 0 d_X11_init_37 rfl rfl rfl ?_
  refine pa_iconst (v := 4) d_X11_init_38 (by decide +kernel) rfl ?_
  refine pa_anew (N := 4) (by decide) (by decide) (by decide) cl_11_30 (Nat.le_of_ble_eq_true rfl) (Nat.le_of_ble_eq_true rfl) d_X11_init_39 rfl (fun q40 => ?_)
  refine pa_putF (j := 3) (ws' := [(b, .inr (11, [.ref q1, .ref q33, .ref q38, .ref q40, .null, .null, .null, .null, .null, .long 0])), (q1, .inr (6, [.ref q2, .ref q8, .int 0, .int 0, .int 0, .ref q9, .ref q14, .int (-1)])), (q2, .inr (1, [.ref q3, .ref q4, .ref q5, .ref q6, .ref q7, .int 0, .int 0, .int 0])), (q3, .inl (w.2.1 0, 1728, .inl (fun _ => 0))), (q4, .inl (w.2.1 0, 200, .inl (fun _ => 0))), (q5, .inl (w.2.1 1, 60, .inr (.inl (fun _ => 0)))), (q6, .inl (w.2.1 0, 60, .inl (fun _ => 0))), (q7, .inl (w.2.1 3, 60, .inl (fun _ => 0))), (q8, .inl (w.2.1 0, 2, .inl (fun _ => 0))), (q9, .inr (9, [.ref q10, .ref q11, .ref q12, .ref q13, .int 0, .int 0, .int 0, .int 0, .int 0, .long 0])), (q10, .inl (w.2.1 2, 4000, .inl (fun _ => 0))), (q11, .inl (w.2.1 0, 4001, .inl (fun _ => 0))), (q12, .inl (w.2.1 0, 4001, .inl (fun _ => 0))), (q13, .inl (w.2.1 1, 4001, .inr (.inl (fun _ => 0)))), (q14, .inr (0, [.ref q15, .ref q19, .ref q27])), (q15, .inr (3, [.ref q16, .ref q17, .ref q18, .int 0])), (q16, .inl (w.2.1 1, 16, .inr (.inl (fun _ => 0)))), (q17, .inl (w.2.1 0, 16, .inl (fun _ => 0))), (q18, .inl (w.2.1 0, 80, .inl (fun _ => 0))), (q19, .inr (8, [.ref q20, .ref q21, .ref q22, .ref q23, .ref q24, .ref q25, .ref q26, .int 0])), (q20, .inl (w.2.1 0, 256, .inl f31)), (q21, .inl (w.2.1 0, 60, .inl (fun _ => 0))), (q22, .inl (w.2.1 0, 60, .inl (fun _ => 0))), (q23, .inl (w.2.1 0, 60, .inl (fun _ => 0))), (q24, .inl (w.2.1 0, 720, .inl (fun _ => 0))), (q25, .inl (w.2.1 0, 5760, .inl (fun _ => 0))), (q26, .inl (w.2.1 0, 480, .inl (fun _ => 0))), (q27, .inr (4, [.ref q28, .ref q29, .ref q30, .int 0, .int 0, .int 0, .int 0, .int 0])), (q28, .inl (w.2.1 0, 400, .inl f32)), (q29, .inl (w.2.1 0, 3200, .inl (fun _ => 0))), (q30, .inl (w.2.1 0, 8, .inl (fun _ => 0))), (q33, .inr (7, [.ref q34, .ref q35, .ref q36, .ref q37])), (q34, .inl (w.2.1 0, 8, .inl (fun _ => 0))), (q35, .inl (w.2.1 0, 8, .inl (fun _ => 0))), (q36, .inl (w.2.1 3, 8, .inl (fun _ => 0))), (q37, .inl (w.2.1 0, 12, .inl (fun _ => 0))), (q38, .inr (2, [.ref q39, .int 0, .int 0, .int 0, .int 0])), (q39, .inl (w.2.1 0, 50, .inl (fun _ => 0))), (q40, .inl (w.2.1 4, 4, .inr (.inr (.inr (.inr (fun _ => none))))))]) 0 cf11 rfl (by decide) rfl rfl rfl rfl rfl (Nat.le_of_ble_eq_true rfl) gl_11_32 rfl d_X11_init_42 rfl ?_
  refine pa_iconst (v := 0) d_X11_init_45 (by decide +kernel) rfl ?_
  refine pa_istore (l0 := b) d_X11_init_46 rfl (by decide) rfl (by first | exact Or.inl rfl | exact Or.inr ⟨_, rfl⟩) ?_
  refine pa_iload 1 d_X11_init_47 rfl rfl rfl ?_
  refine pa_iconst (v := 4) d_X11_init_48 (by decide +kernel) rfl ?_
  refine pa_geF (tgt := 71) (by decide) d_X11_init_49 (by decide) rfl ?_
  refine pa_aload 0 d_X11_init_52 rfl rfl rfl ?_
  refine pa_get (j := 3) 0 cf11 rfl (by decide) rfl gl_11_32 d_X11_init_53 rfl ?_
  refine pa_iload 1 d_X11_init_56 rfl rfl rfl ?_
  refine pa_new (fs := [.null, .null, .null, .int 0, .int 0, .int 0, .int 0, .int 0]) cf4 cl_11_30 xn_4 xi_4 df_4 (Nat.le_of_ble_eq_true rfl) (Nat.le_of_ble_eq_true rfl) d_X11_init_57 rfl (fun q41 => ?_)
  refine pa_dup d_X11_init_60 rfl rfl ?_
  refine pa_init (wr := [(b, .inr (11, [.ref q1, .ref q33, .ref q38, .ref q40, .null, .null, .null, .null, .null, .long 0])), (q1, .inr (6, [.ref q2, .ref q8, .int 0, .int 0, .int 0, .ref q9, .ref q14, .int (-1)])), (q2, .inr (1, [.ref q3, .ref q4, .ref q5, .ref q6, .ref q7, .int 0, .int 0, .int 0])), (q3, .inl (w.2.1 0, 1728, .inl (fun _ => 0))), (q4, .inl (w.2.1 0, 200, .inl (fun _ => 0))), (q5, .inl (w.2.1 1, 60, .inr (.inl (fun _ => 0)))), (q6, .inl (w.2.1 0, 60, .inl (fun _ => 0))), (q7, .inl (w.2.1 3, 60, .inl (fun _ => 0))), (q8, .inl (w.2.1 0, 2, .inl (fun _ => 0))), (q9, .inr (9, [.ref q10, .ref q11, .ref q12, .ref q13, .int 0, .int 0, .int 0, .int 0, .int 0, .long 0])), (q10, .inl (w.2.1 2, 4000, .inl (fun _ => 0))), (q11, .inl (w.2.1 0, 4001, .inl (fun _ => 0))), (q12, .inl (w.2.1 0, 4001, .inl (fun _ => 0))), (q13, .inl (w.2.1 1, 4001, .inr (.inl (fun _ => 0)))), (q14, .inr (0, [.ref q15, .ref q19, .ref q27])), (q15, .inr (3, [.ref q16, .ref q17, .ref q18, .int 0])), (q16, .inl (w.2.1 1, 16, .inr (.inl (fun _ => 0)))), (q17, .inl (w.2.1 0, 16, .inl (fun _ => 0))), (q18, .inl (w.2.1 0, 80, .inl (fun _ => 0))), (q19, .inr (8, [.ref q20, .ref q21, .ref q22, .ref q23, .ref q24, .ref q25, .ref q26, .int 0])), (q20, .inl (w.2.1 0, 256, .inl f31)), (q21, .inl (w.2.1 0, 60, .inl (fun _ => 0))), (q22, .inl (w.2.1 0, 60, .inl (fun _ => 0))), (q23, .inl (w.2.1 0, 60, .inl (fun _ => 0))), (q24, .inl (w.2.1 0, 720, .inl (fun _ => 0))), (q25, .inl (w.2.1 0, 5760, .inl (fun _ => 0))), (q26, .inl (w.2.1 0, 480, .inl (fun _ => 0))), (q27, .inr (4, [.ref q28, .ref q29, .ref q30, .int 0, .int 0, .int 0, .int 0, .int 0])), (q28, .inl (w.2.1 0, 400, .inl f32)), (q29, .inl (w.2.1 0, 3200, .inl (fun _ => 0))), (q30, .inl (w.2.1 0, 8, .inl (fun _ => 0))), (q33, .inr (7, [.ref q34, .ref q35, .ref q36, .ref q37])), (q34, .inl (w.2.1 0, 8, .inl (fun _ => 0))), (q35, .inl (w.2.1 0, 8, .inl (fun _ => 0))), (q36, .inl (w.2.1 3, 8, .inl (fun _ => 0))), (q37, .inl (w.2.1 0, 12, .inl (fun _ => 0))), (q38, .inr (2, [.ref q39, .int 0, .int 0, .int 0, .int 0])), (q39, .inl (w.2.1 0, 50, .inl (fun _ => 0))), (q40, .inl (w.2.1 4, 4, .inr (.inr (.inr (.inr (fun _ => none))))))]) (ka_X4_init l w) ic_11_36 xm_4 rfl rfl rfl (Nat.le_of_ble_eq_true rfl) (Nat.le_of_ble_eq_true rfl) (Nat.le_of_ble_eq_true rfl) (Nat.le_of_ble_eq_true rfl) (Nat.le_of_ble_eq_true rfl) d_X11_init_61 rfl (fun w1 hw1 => ?_)
  obtain ⟨q42, q43, q44, f45, rfl, hf45⟩ := hw1
  refine pa_aast (ws' := [(b, .inr (11, [.ref q1, .ref q33, .ref q38, .ref q40, .null, .null, .null, .null, .null, .long 0])), (q1, .inr (6, [.ref q2, .ref q8, .int 0, .int 0, .int 0, .ref q9, .ref q14, .int (-1)])), (q2, .inr (1, [.ref q3, .ref q4, .ref q5, .ref q6, .ref q7, .int 0, .int 0, .int 0])), (q3, .inl (w.2.1 0, 1728, .inl (fun _ => 0))), (q4, .inl (w.2.1 0, 200, .inl (fun _ => 0))), (q5, .inl (w.2.1 1, 60, .inr (.inl (fun _ => 0)))), (q6, .inl (w.2.1 0, 60, .inl (fun _ => 0))), (q7, .inl (w.2.1 3, 60, .inl (fun _ => 0))), (q8, .inl (w.2.1 0, 2, .inl (fun _ => 0))), (q9, .inr (9, [.ref q10, .ref q11, .ref q12, .ref q13, .int 0, .int 0, .int 0, .int 0, .int 0, .long 0])), (q10, .inl (w.2.1 2, 4000, .inl (fun _ => 0))), (q11, .inl (w.2.1 0, 4001, .inl (fun _ => 0))), (q12, .inl (w.2.1 0, 4001, .inl (fun _ => 0))), (q13, .inl (w.2.1 1, 4001, .inr (.inl (fun _ => 0)))), (q14, .inr (0, [.ref q15, .ref q19, .ref q27])), (q15, .inr (3, [.ref q16, .ref q17, .ref q18, .int 0])), (q16, .inl (w.2.1 1, 16, .inr (.inl (fun _ => 0)))), (q17, .inl (w.2.1 0, 16, .inl (fun _ => 0))), (q18, .inl (w.2.1 0, 80, .inl (fun _ => 0))), (q19, .inr (8, [.ref q20, .ref q21, .ref q22, .ref q23, .ref q24, .ref q25, .ref q26, .int 0])), (q20, .inl (w.2.1 0, 256, .inl f31)), (q21, .inl (w.2.1 0, 60, .inl (fun _ => 0))), (q22, .inl (w.2.1 0, 60, .inl (fun _ => 0))), (q23, .inl (w.2.1 0, 60, .inl (fun _ => 0))), (q24, .inl (w.2.1 0, 720, .inl (fun _ => 0))), (q25, .inl (w.2.1 0, 5760, .inl (fun _ => 0))), (q26, .inl (w.2.1 0, 480, .inl (fun _ => 0))), (q27, .inr (4, [.ref q28, .ref q29, .ref q30, .int 0, .int 0, .int 0, .int 0, .int 0])), (q28, .inl (w.2.1 0, 400, .inl f32)), (q29, .inl (w.2.1 0, 3200, .inl (fun _ => 0))), (q30, .inl (w.2.1 0, 8, .inl (fun _ => 0))), (q33, .inr (7, [.ref q34, .ref q35, .ref q36, .ref q37])), (q34, .inl (w.2.1 0, 8, .inl (fun _ => 0))), (q35, .inl (w.2.1 0, 8, .inl (fun _ => 0))), (q36, .inl (w.2.1 3, 8, .inl (fun _ => 0))), (q37, .inl (w.2.1 0, 12, .inl (fun _ => 0))), (q38, .inr (2, [.ref q39, .int 0, .int 0, .int 0, .int 0])), (q39, .inl (w.2.1 0, 50, .inl (fun _ => 0))), (q40, .inl (w.2.1 4, 4, .inr (.inr (.inr (.inr (va_up (fun _ => none) (0 : Int32).toNatClampNeg (some q41))))))), (q41, .inr (4, [.ref q42, .ref q43, .ref q44, .int 0, .int 0, .int 0, .int 0, .int 0])), (q42, .inl (w.2.1 0, 400, .inl f45)), (q43, .inl (w.2.1 0, 3200, .inl (fun _ => 0))), (q44, .inl (w.2.1 0, 8, .inl (fun _ => 0)))]) 38 39 rfl rfl (by decide) d_X11_init_64 rfl rfl ?_
  refine pa_iinc (v := 1) d_X11_init_65 (by decide) (by decide) rfl ?_
  refine pa_goto (pc' := 47) d_X11_init_68 (by decide) ?_
  refine pa_iload 1 d_X11_init_47 rfl rfl rfl ?_
  refine pa_iconst (v := 4) d_X11_init_48 (by decide +kernel) rfl ?_
  refine pa_geF (tgt := 71) (by decide) d_X11_init_49 (by decide) rfl ?_
  refine pa_aload 0 d_X11_init_52 rfl rfl rfl ?_
  refine pa_get (j := 3) 0 cf11 rfl (by decide) rfl gl_11_32 d_X11_init_53 rfl ?_
  refine pa_iload 1 d_X11_init_56 rfl rfl rfl ?_
  refine pa_new (fs := [.null, .null, .null, .int 0, .int 0, .int 0, .int 0, .int 0]) cf4 cl_11_30 xn_4 xi_4 df_4 (Nat.le_of_ble_eq_true rfl) (Nat.le_of_ble_eq_true rfl) d_X11_init_57 rfl (fun q46 => ?_)
  refine pa_dup d_X11_init_60 rfl rfl ?_
  refine pa_init (wr := [(b, .inr (11, [.ref q1, .ref q33, .ref q38, .ref q40, .null, .null, .null, .null, .null, .long 0])), (q1, .inr (6, [.ref q2, .ref q8, .int 0, .int 0, .int 0, .ref q9, .ref q14, .int (-1)])), (q2, .inr (1, [.ref q3, .ref q4, .ref q5, .ref q6, .ref q7, .int 0, .int 0, .int 0])), (q3, .inl (w.2.1 0, 1728, .inl (fun _ => 0))), (q4, .inl (w.2.1 0, 200, .inl (fun _ => 0))), (q5, .inl (w.2.1 1, 60, .inr (.inl (fun _ => 0)))), (q6, .inl (w.2.1 0, 60, .inl (fun _ => 0))), (q7, .inl (w.2.1 3, 60, .inl (fun _ => 0))), (q8, .inl (w.2.1 0, 2, .inl (fun _ => 0))), (q9, .inr (9, [.ref q10, .ref q11, .ref q12, .ref q13, .int 0, .int 0, .int 0, .int 0, .int 0, .long 0])), (q10, .inl (w.2.1 2, 4000, .inl (fun _ => 0))), (q11, .inl (w.2.1 0, 4001, .inl (fun _ => 0))), (q12, .inl (w.2.1 0, 4001, .inl (fun _ => 0))), (q13, .inl (w.2.1 1, 4001, .inr (.inl (fun _ => 0)))), (q14, .inr (0, [.ref q15, .ref q19, .ref q27])), (q15, .inr (3, [.ref q16, .ref q17, .ref q18, .int 0])), (q16, .inl (w.2.1 1, 16, .inr (.inl (fun _ => 0)))), (q17, .inl (w.2.1 0, 16, .inl (fun _ => 0))), (q18, .inl (w.2.1 0, 80, .inl (fun _ => 0))), (q19, .inr (8, [.ref q20, .ref q21, .ref q22, .ref q23, .ref q24, .ref q25, .ref q26, .int 0])), (q20, .inl (w.2.1 0, 256, .inl f31)), (q21, .inl (w.2.1 0, 60, .inl (fun _ => 0))), (q22, .inl (w.2.1 0, 60, .inl (fun _ => 0))), (q23, .inl (w.2.1 0, 60, .inl (fun _ => 0))), (q24, .inl (w.2.1 0, 720, .inl (fun _ => 0))), (q25, .inl (w.2.1 0, 5760, .inl (fun _ => 0))), (q26, .inl (w.2.1 0, 480, .inl (fun _ => 0))), (q27, .inr (4, [.ref q28, .ref q29, .ref q30, .int 0, .int 0, .int 0, .int 0, .int 0])), (q28, .inl (w.2.1 0, 400, .inl f32)), (q29, .inl (w.2.1 0, 3200, .inl (fun _ => 0))), (q30, .inl (w.2.1 0, 8, .inl (fun _ => 0))), (q33, .inr (7, [.ref q34, .ref q35, .ref q36, .ref q37])), (q34, .inl (w.2.1 0, 8, .inl (fun _ => 0))), (q35, .inl (w.2.1 0, 8, .inl (fun _ => 0))), (q36, .inl (w.2.1 3, 8, .inl (fun _ => 0))), (q37, .inl (w.2.1 0, 12, .inl (fun _ => 0))), (q38, .inr (2, [.ref q39, .int 0, .int 0, .int 0, .int 0])), (q39, .inl (w.2.1 0, 50, .inl (fun _ => 0))), (q40, .inl (w.2.1 4, 4, .inr (.inr (.inr (.inr (va_up (fun _ => none) (0 : Int32).toNatClampNeg (some q41))))))), (q41, .inr (4, [.ref q42, .ref q43, .ref q44, .int 0, .int 0, .int 0, .int 0, .int 0])), (q42, .inl (w.2.1 0, 400, .inl f45)), (q43, .inl (w.2.1 0, 3200, .inl (fun _ => 0))), (q44, .inl (w.2.1 0, 8, .inl (fun _ => 0)))]) (ka_X4_init l w) ic_11_36 xm_4 rfl rfl rfl (Nat.le_of_ble_eq_true rfl) (Nat.le_of_ble_eq_true rfl) (Nat.le_of_ble_eq_true rfl) (Nat.le_of_ble_eq_true rfl) (Nat.le_of_ble_eq_true rfl) d_X11_init_61 rfl (fun w1 hw1 => ?_)
  obtain ⟨q47, q48, q49, f50, rfl, hf50⟩ := hw1
  refine pa_aast (ws' := [(b, .inr (11, [.ref q1, .ref q33, .ref q38, .ref q40, .null, .null, .null, .null, .null, .long 0])), (q1, .inr (6, [.ref q2, .ref q8, .int 0, .int 0, .int 0, .ref q9, .ref q14, .int (-1)])), (q2, .inr (1, [.ref q3, .ref q4, .ref q5, .ref q6, .ref q7, .int 0, .int 0, .int 0])), (q3, .inl (w.2.1 0, 1728, .inl (fun _ => 0))), (q4, .inl (w.2.1 0, 200, .inl (fun _ => 0))), (q5, .inl (w.2.1 1, 60, .inr (.inl (fun _ => 0)))), (q6, .inl (w.2.1 0, 60, .inl (fun _ => 0))), (q7, .inl (w.2.1 3, 60, .inl (fun _ => 0))), (q8, .inl (w.2.1 0, 2, .inl (fun _ => 0))), (q9, .inr (9, [.ref q10, .ref q11, .ref q12, .ref q13, .int 0, .int 0, .int 0, .int 0, .int 0, .long 0])), (q10, .inl (w.2.1 2, 4000, .inl (fun _ => 0))), (q11, .inl (w.2.1 0, 4001, .inl (fun _ => 0))), (q12, .inl (w.2.1 0, 4001, .inl (fun _ => 0))), (q13, .inl (w.2.1 1, 4001, .inr (.inl (fun _ => 0)))), (q14, .inr (0, [.ref q15, .ref q19, .ref q27])), (q15, .inr (3, [.ref q16, .ref q17, .ref q18, .int 0])), (q16, .inl (w.2.1 1, 16, .inr (.inl (fun _ => 0)))), (q17, .inl (w.2.1 0, 16, .inl (fun _ => 0))), (q18, .inl (w.2.1 0, 80, .inl (fun _ => 0))), (q19, .inr (8, [.ref q20, .ref q21, .ref q22, .ref q23, .ref q24, .ref q25, .ref q26, .int 0])), (q20, .inl (w.2.1 0, 256, .inl f31)), (q21, .inl (w.2.1 0, 60, .inl (fun _ => 0))), (q22, .inl (w.2.1 0, 60, .inl (fun _ => 0))), (q23, .inl (w.2.1 0, 60, .inl (fun _ => 0))), (q24, .inl (w.2.1 0, 720, .inl (fun _ => 0))), (q25, .inl (w.2.1 0, 5760, .inl (fun _ => 0))), (q26, .inl (w.2.1 0, 480, .inl (fun _ => 0))), (q27, .inr (4, [.ref q28, .ref q29, .ref q30, .int 0, .int 0, .int 0, .int 0, .int 0])), (q28, .inl (w.2.1 0, 400, .inl f32)), (q29, .inl (w.2.1 0, 3200, .inl (fun _ => 0))), (q30, .inl (w.2.1 0, 8, .inl (fun _ => 0))), (q33, .inr (7, [.ref q34, .ref q35, .ref q36, .ref q37])), (q34, .inl (w.2.1 0, 8, .inl (fun _ => 0))), (q35, .inl (w.2.1 0, 8, .inl (fun _ => 0))), (q36, .inl (w.2.1 3, 8, .inl (fun _ => 0))), (q37, .inl (w.2.1 0, 12, .inl (fun _ => 0))), (q38, .inr (2, [.ref q39, .int 0, .int 0, .int 0, .int 0])), (q39, .inl (w.2.1 0, 50, .inl (fun _ => 0))), (q40, .inl (w.2.1 4, 4, .inr (.inr (.inr (.inr (va_up (va_up (fun _ => none) (0 : Int32).toNatClampNeg (some q41)) (1 : Int32).toNatClampNeg (some q46))))))), (q41, .inr (4, [.ref q42, .ref q43, .ref q44, .int 0, .int 0, .int 0, .int 0, .int 0])), (q42, .inl (w.2.1 0, 400, .inl f45)), (q43, .inl (w.2.1 0, 3200, .inl (fun _ => 0))), (q44, .inl (w.2.1 0, 8, .inl (fun _ => 0))), (q46, .inr (4, [.ref q47, .ref q48, .ref q49, .int 0, .int 0, .int 0, .int 0, .int 0])), (q47, .inl (w.2.1 0, 400, .inl f50)), (q48, .inl (w.2.1 0, 3200, .inl (fun _ => 0))), (q49, .inl (w.2.1 0, 8, .inl (fun _ => 0)))]) 38 43 rfl rfl (by decide) d_X11_init_64 rfl rfl ?_
  refine pa_iinc (v := 2) d_X11_init_65 (by decide) (by decide) rfl ?_
  refine pa_goto (pc' := 47) d_X11_init_68 (by decide) ?_
  refine pa_iload 1 d_X11_init_47 rfl rfl rfl ?_
  refine pa_iconst (v := 4) d_X11_init_48 (by decide +kernel) rfl ?_
  refine pa_geF (tgt := 71) (by decide) d_X11_init_49 (by decide) rfl ?_
  refine pa_aload 0 d_X11_init_52 rfl rfl rfl ?_
  refine pa_get (j := 3) 0 cf11 rfl (by decide) rfl gl_11_32 d_X11_init_53 rfl ?_
  refine pa_iload 1 d_X11_init_56 rfl rfl rfl ?_
  refine pa_new (fs := [.null, .null, .null, .int 0, .int 0, .int 0, .int 0, .int 0]) cf4 cl_11_30 xn_4 xi_4 df_4 (Nat.le_of_ble_eq_true rfl) (Nat.le_of_ble_eq_true rfl) d_X11_init_57 rfl (fun q51 => ?_)
  refine pa_dup d_X11_init_60 rfl rfl ?_
  refine pa_init (wr := [(b, .inr (11, [.ref q1, .ref q33, .ref q38, .ref q40, .null, .null, .null, .null, .null, .long 0])), (q1, .inr (6, [.ref q2, .ref q8, .int 0, .int 0, .int 0, .ref q9, .ref q14, .int (-1)])), (q2, .inr (1, [.ref q3, .ref q4, .ref q5, .ref q6, .ref q7, .int 0, .int 0, .int 0])), (q3, .inl (w.2.1 0, 1728, .inl (fun _ => 0))), (q4, .inl (w.2.1 0, 200, .inl (fun _ => 0))), (q5, .inl (w.2.1 1, 60, .inr (.inl (fun _ => 0)))), (q6, .inl (w.2.1 0, 60, .inl (fun _ => 0))), (q7, .inl (w.2.1 3, 60, .inl (fun _ => 0))), (q8, .inl (w.2.1 0, 2, .inl (fun _ => 0))), (q9, .inr (9, [.ref q10, .ref q11, .ref q12, .ref q13, .int 0, .int 0, .int 0, .int 0, .int 0, .long 0])), (q10, .inl (w.2.1 2, 4000, .inl (fun _ => 0))), (q11, .inl (w.2.1 0, 4001, .inl (fun _ => 0))), (q12, .inl (w.2.1 0, 4001, .inl (fun _ => 0))), (q13, .inl (w.2.1 1, 4001, .inr (.inl (fun _ => 0)))), (q14, .inr (0, [.ref q15, .ref q19, .ref q27])), (q15, .inr (3, [.ref q16, .ref q17, .ref q18, .int 0])), (q16, .inl (w.2.1 1, 16, .inr (.inl (fun _ => 0)))), (q17, .inl (w.2.1 0, 16, .inl (fun _ => 0))), (q18, .inl (w.2.1 0, 80, .inl (fun _ => 0))), (q19, .inr (8, [.ref q20, .ref q21, .ref q22, .ref q23, .ref q24, .ref q25, .ref q26, .int 0])), (q20, .inl (w.2.1 0, 256, .inl f31)), (q21, .inl (w.2.1 0, 60, .inl (fun _ => 0))), (q22, .inl (w.2.1 0, 60, .inl (fun _ => 0))), (q23, .inl (w.2.1 0, 60, .inl (fun _ => 0))), (q24, .inl (w.2.1 0, 720, .inl (fun _ => 0))), (q25, .inl (w.2.1 0, 5760, .inl (fun _ => 0))), (q26, .inl (w.2.1 0, 480, .inl (fun _ => 0))), (q27, .inr (4, [.ref q28, .ref q29, .ref q30, .int 0, .int 0, .int 0, .int 0, .int 0])), (q28, .inl (w.2.1 0, 400, .inl f32)), (q29, .inl (w.2.1 0, 3200, .inl (fun _ => 0))), (q30, .inl (w.2.1 0, 8, .inl (fun _ => 0))), (q33, .inr (7, [.ref q34, .ref q35, .ref q36, .ref q37])), (q34, .inl (w.2.1 0, 8, .inl (fun _ => 0))), (q35, .inl (w.2.1 0, 8, .inl (fun _ => 0))), (q36, .inl (w.2.1 3, 8, .inl (fun _ => 0))), (q37, .inl (w.2.1 0, 12, .inl (fun _ => 0))), (q38, .inr (2, [.ref q39, .int 0, .int 0, .int 0, .int 0])), (q39, .inl (w.2.1 0, 50, .inl (fun _ => 0))), (q40, .inl (w.2.1 4, 4, .inr (.inr (.inr (.inr (va_up (va_up (fun _ => none) (0 : Int32).toNatClampNeg (some q41)) (1 : Int32).toNatClampNeg (some q46))))))), (q41, .inr (4, [.ref q42, .ref q43, .ref q44, .int 0, .int 0, .int 0, .int 0, .int 0])), (q42, .inl (w.2.1 0, 400, .inl f45)), (q43, .inl (w.2.1 0, 3200, .inl (fun _ => 0))), (q44, .inl (w.2.1 0, 8, .inl (fun _ => 0))), (q46, .inr (4, [.ref q47, .ref q48, .ref q49, .int 0, .int 0, .int 0, .int 0, .int 0])), (q47, .inl (w.2.1 0, 400, .inl f50)), (q48, .inl (w.2.1 0, 3200, .inl (fun _ => 0))), (q49, .inl (w.2.1 0, 8, .inl (fun _ => 0)))]) (ka_X4_init l w) ic_11_36 xm_4 rfl rfl rfl (Nat.le_of_ble_eq_true rfl) (Nat.le_of_ble_eq_true rfl) (Nat.le_of_ble_eq_true rfl) (Nat.le_of_ble_eq_true rfl) (Nat.le_of_ble_eq_true rfl) d_X11_init_61 rfl (fun w1 hw1 => ?_)
  obtain ⟨q52, q53, q54, f55, rfl, hf55⟩ := hw1
  refine pa_aast (ws' := [(b, .inr (11, [.ref q1, .ref q33, .ref q38, .ref q40, .null, .null, .null, .null, .null, .long 0])), (q1, .inr (6, [.ref q2, .ref q8, .int 0, .int 0, .int 0, .ref q9, .ref q14, .int (-1)])), (q2, .inr (1, [.ref q3, .ref q4, .ref q5, .ref q6, .ref q7, .int 0, .int 0, .int 0])), (q3, .inl (w.2.1 0, 1728, .inl (fun _ => 0))), (q4, .inl (w.2.1 0, 200, .inl (fun _ => 0))), (q5, .inl (w.2.1 1, 60, .inr (.inl (fun _ => 0)))), (q6, .inl (w.2.1 0, 60, .inl (fun _ => 0))), (q7, .inl (w.2.1 3, 60, .inl (fun _ => 0))), (q8, .inl (w.2.1 0, 2, .inl (fun _ => 0))), (q9, .inr (9, [.ref q10, .ref q11, .ref q12, .ref q13, .int 0, .int 0, .int 0, .int 0, .int 0, .long 0])), (q10, .inl (w.2.1 2, 4000, .inl (fun _ => 0))), (q11, .inl (w.2.1 0, 4001, .inl (fun _ => 0))), (q12, .inl (w.2.1 0, 4001, .inl (fun _ => 0))), (q13, .inl (w.2.1 1, 4001, .inr (.inl (fun _ => 0)))), (q14, .inr (0, [.ref q15, .ref q19, .ref q27])), (q15, .inr (3, [.ref q16, .ref q17, .ref q18, .int 0])), (q16, .inl (w.2.1 1, 16, .inr (.inl (fun _ => 0)))), (q17, .inl (w.2.1 0, 16, .inl (fun _ => 0))), (q18, .inl (w.2.1 0, 80, .inl (fun _ => 0))), (q19, .inr (8, [.ref q20, .ref q21, .ref q22, .ref q23, .ref q24, .ref q25, .ref q26, .int 0])), (q20, .inl (w.2.1 0, 256, .inl f31)), (q21, .inl (w.2.1 0, 60, .inl (fun _ => 0))), (q22, .inl (w.2.1 0, 60, .inl (fun _ => 0))), (q23, .inl (w.2.1 0, 60, .inl (fun _ => 0))), (q24, .inl (w.2.1 0, 720, .inl (fun _ => 0))), (q25, .inl (w.2.1 0, 5760, .inl (fun _ => 0))), (q26, .inl (w.2.1 0, 480, .inl (fun _ => 0))), (q27, .inr (4, [.ref q28, .ref q29, .ref q30, .int 0, .int 0, .int 0, .int 0, .int 0])), (q28, .inl (w.2.1 0, 400, .inl f32)), (q29, .inl (w.2.1 0, 3200, .inl (fun _ => 0))), (q30, .inl (w.2.1 0, 8, .inl (fun _ => 0))), (q33, .inr (7, [.ref q34, .ref q35, .ref q36, .ref q37])), (q34, .inl (w.2.1 0, 8, .inl (fun _ => 0))), (q35, .inl (w.2.1 0, 8, .inl (fun _ => 0))), (q36, .inl (w.2.1 3, 8, .inl (fun _ => 0))), (q37, .inl (w.2.1 0, 12, .inl (fun _ => 0))), (q38, .inr (2, [.ref q39, .int 0, .int 0, .int 0, .int 0])), (q39, .inl (w.2.1 0, 50, .inl (fun _ => 0))), (q40, .inl (w.2.1 4, 4, .inr (.inr (.inr (.inr (va_up (va_up (va_up (fun _ => none) (0 : Int32).toNatClampNeg (some q41)) (1 : Int32).toNatClampNeg (some q46)) (2 : Int32).toNatClampNeg (some q51))))))), (q41, .inr (4, [.ref q42, .ref q43, .ref q44, .int 0, .int 0, .int 0, .int 0, .int 0])), (q42, .inl (w.2.1 0, 400, .inl f45)), (q43, .inl (w.2.1 0, 3200, .inl (fun _ => 0))), (q44, .inl (w.2.1 0, 8, .inl (fun _ => 0))), (q46, .inr (4, [.ref q47, .ref q48, .ref q49, .int 0, .int 0, .int 0, .int 0, .int 0])), (q47, .inl (w.2.1 0, 400, .inl f50)), (q48, .inl (w.2.1 0, 3200, .inl (fun _ => 0))), (q49, .inl (w.2.1 0, 8, .inl (fun _ => 0))), (q51, .inr (4, [.ref q52, .ref q53, .ref q54, .int 0, .int 0, .int 0, .int 0, .int 0])), (q52, .inl (w.2.1 0, 400, .inl f55)), (q53, .inl (w.2.1 0, 3200, .inl (fun _ => 0))), (q54, .inl (w.2.1 0, 8, .inl (fun _ => 0)))]) 38 47 rfl rfl (by decide) d_X11_init_64 rfl rfl ?_
  refine pa_iinc (v := 3) d_X11_init_65 (by decide) (by decide) rfl ?_
  refine pa_goto (pc' := 47) d_X11_init_68 (by decide) ?_
  refine pa_iload 1 d_X11_init_47 rfl rfl rfl ?_
  refine pa_iconst (v := 4) d_X11_init_48 (by decide +kernel) rfl ?_
  refine pa_geF (tgt := 71) (by decide) d_X11_init_49 (by decide) rfl ?_
  refine pa_aload 0 d_X11_init_52 rfl rfl rfl ?_
  refine pa_get (j := 3) 0 cf11 rfl (by decide) rfl gl_11_32 d_X11_init_53 rfl ?_
  refine pa_iload 1 d_X11_init_56 rfl rfl rfl ?_
  refine pa_new (fs := [.null, .null, .null, .int 0, .int 0, .int 0, .int 0, .int 0]) cf4 cl_11_30 xn_4 xi_4 df_4 (Nat.le_of_ble_eq_true rfl) (Nat.le_of_ble_eq_true rfl) d_X11_init_57 rfl (fun q56 => ?_)
  refine pa_dup d_X11_init_60 rfl rfl ?_
  refine pa_init (wr := [(b, .inr (11, [.ref q1, .ref q33, .ref q38, .ref q40, .null, .null, .null, .null, .null, .long 0])), (q1, .inr (6, [.ref q2, .ref q8, .int 0, .int 0, .int 0, .ref q9, .ref q14, .int (-1)])), (q2, .inr (1, [.ref q3, .ref q4, .ref q5, .ref q6, .ref q7, .int 0, .int 0, .int 0])), (q3, .inl (w.2.1 0, 1728, .inl (fun _ => 0))), (q4, .inl (w.2.1 0, 200, .inl (fun _ => 0))), (q5, .inl (w.2.1 1, 60, .inr (.inl (fun _ => 0)))), (q6, .inl (w.2.1 0, 60, .inl (fun _ => 0))), (q7, .inl (w.2.1 3, 60, .inl (fun _ => 0))), (q8, .inl (w.2.1 0, 2, .inl (fun _ => 0))), (q9, .inr (9, [.ref q10, .ref q11, .ref q12, .ref q13, .int 0, .int 0, .int 0, .int 0, .int 0, .long 0])), (q10, .inl (w.2.1 2, 4000, .inl (fun _ => 0))), (q11, .inl (w.2.1 0, 4001, .inl (fun _ => 0))), (q12, .inl (w.2.1 0, 4001, .inl (fun _ => 0))), (q13, .inl (w.2.1 1, 4001, .inr (.inl (fun _ => 0)))), (q14, .inr (0, [.ref q15, .ref q19, .ref q27])), (q15, .inr (3, [.ref q16, .ref q17, .ref q18, .int 0])), (q16, .inl (w.2.1 1, 16, .inr (.inl (fun _ => 0)))), (q17, .inl (w.2.1 0, 16, .inl (fun _ => 0))), (q18, .inl (w.2.1 0, 80, .inl (fun _ => 0))), (q19, .inr (8, [.ref q20, .ref q21, .ref q22, .ref q23, .ref q24, .ref q25, .ref q26, .int 0])), (q20, .inl (w.2.1 0, 256, .inl f31)), (q21, .inl (w.2.1 0, 60, .inl (fun _ => 0))), (q22, .inl (w.2.1 0, 60, .inl (fun _ => 0))), (q23, .inl (w.2.1 0, 60, .inl (fun _ => 0))), (q24, .inl (w.2.1 0, 720, .inl (fun _ => 0))), (q25, .inl (w.2.1 0, 5760, .inl (fun _ => 0))), (q26, .inl (w.2.1 0, 480, .inl (fun _ => 0))), (q27, .inr (4, [.ref q28, .ref q29, .ref q30, .int 0, .int 0, .int 0, .int 0, .int 0])), (q28, .inl (w.2.1 0, 400, .inl f32)), (q29, .inl (w.2.1 0, 3200, .inl (fun _ => 0))), (q30, .inl (w.2.1 0, 8, .inl (fun _ => 0))), (q33, .inr (7, [.ref q34, .ref q35, .ref q36, .ref q37])), (q34, .inl (w.2.1 0, 8, .inl (fun _ => 0))), (q35, .inl (w.2.1 0, 8, .inl (fun _ => 0))), (q36, .inl (w.2.1 3, 8, .inl (fun _ => 0))), (q37, .inl (w.2.1 0, 12, .inl (fun _ => 0))), (q38, .inr (2, [.ref q39, .int 0, .int 0, .int 0, .int 0])), (q39, .inl (w.2.1 0, 50, .inl (fun _ => 0))), (q40, .inl (w.2.1 4, 4, .inr (.inr (.inr (.inr (va_up (va_up (va_up (fun _ => none) (0 : Int32).toNatClampNeg (some q41)) (1 : Int32).toNatClampNeg (some q46)) (2 : Int32).toNatClampNeg (some q51))))))), (q41, .inr (4, [.ref q42, .ref q43, .ref q44, .int 0, .int 0, .int 0, .int 0, .int 0])), (q42, .inl (w.2.1 0, 400, .inl f45)), (q43, .inl (w.2.1 0, 3200, .inl (fun _ => 0))), (q44, .inl (w.2.1 0, 8, .inl (fun _ => 0))), (q46, .inr (4, [.ref q47, .ref q48, .ref q49, .int 0, .int 0, .int 0, .int 0, .int 0])), (q47, .inl (w.2.1 0, 400, .inl f50)), (q48, .inl (w.2.1 0, 3200, .inl (fun _ => 0))), (q49, .inl (w.2.1 0, 8, .inl (fun _ => 0))), (q51, .inr (4, [.ref q52, .ref q53, .ref q54, .int 0, .int 0, .int 0, .int 0, .int 0])), (q52, .inl (w.2.1 0, 400, .inl f55)), (q53, .inl (w.2.1 0, 3200, .inl (fun _ => 0))), (q54, .inl (w.2.1 0, 8, .inl (fun _ => 0)))]) (ka_X4_init l w) ic_11_36 xm_4 rfl rfl rfl (Nat.le_of_ble_eq_true rfl) (Nat.le_of_ble_eq_true rfl) (Nat.le_of_ble_eq_true rfl) (Nat.le_of_ble_eq_true rfl) (Nat.le_of_ble_eq_true rfl) d_X11_init_61 rfl (fun w1 hw1 => ?_)
  obtain ⟨q57, q58, q59, f60, rfl, hf60⟩ := hw1
  refine pa_aast (ws' := [(b, .inr (11, [.ref q1, .ref q33, .ref q38, .ref q40, .null, .null, .null, .null, .null, .long 0])), (q1, .inr (6, [.ref q2, .ref q8, .int 0, .int 0, .int 0, .ref q9, .ref q14, .int (-1)])), (q2, .inr (1, [.ref q3, .ref q4, .ref q5, .ref q6, .ref q7, .int 0, .int 0, .int 0])), (q3, .inl (w.2.1 0, 1728, .inl (fun _ => 0))), (q4, .inl (w.2.1 0, 200, .inl (fun _ => 0))), (q5, .inl (w.2.1 1, 60, .inr (.inl (fun _ => 0)))), (q6, .inl (w.2.1 0, 60, .inl (fun _ => 0))), (q7, .inl (w.2.1 3, 60, .inl (fun _ => 0))), (q8, .inl (w.2.1 0, 2, .inl (fun _ => 0))), (q9, .inr (9, [.ref q10, .ref q11, .ref q12, .ref q13, .int 0, .int 0, .int 0, .int 0, .int 0, .long 0])), (q10, .inl (w.2.1 2, 4000, .inl (fun _ => 0))), (q11, .inl (w.2.1 0, 4001, .inl (fun _ => 0))), (q12, .inl (w.2.1 0, 4001, .inl (fun _ => 0))), (q13, .inl (w.2.1 1, 4001, .inr (.inl (fun _ => 0)))), (q14, .inr (0, [.ref q15, .ref q19, .ref q27])), (q15, .inr (3, [.ref q16, .ref q17, .ref q18, .int 0])), (q16, .inl (w.2.1 1, 16, .inr (.inl (fun _ => 0)))), (q17, .inl (w.2.1 0, 16, .inl (fun _ => 0))), (q18, .inl (w.2.1 0, 80, .inl (fun _ => 0))), (q19, .inr (8, [.ref q20, .ref q21, .ref q22, .ref q23, .ref q24, .ref q25, .ref q26, .int 0])), (q20, .inl (w.2.1 0, 256, .inl f31)), (q21, .inl (w.2.1 0, 60, .inl (fun _ => 0))), (q22, .inl (w.2.1 0, 60, .inl (fun _ => 0))), (q23, .inl (w.2.1 0, 60, .inl (fun _ => 0))), (q24, .inl (w.2.1 0, 720, .inl (fun _ => 0))), (q25, .inl (w.2.1 0, 5760, .inl (fun _ => 0))), (q26, .inl (w.2.1 0, 480, .inl (fun _ => 0))), (q27, .inr (4, [.ref q28, .ref q29, .ref q30, .int 0, .int 0, .int 0, .int 0, .int 0])), (q28, .inl (w.2.1 0, 400, .inl f32)), (q29, .inl (w.2.1 0, 3200, .inl (fun _ => 0))), (q30, .inl (w.2.1 0, 8, .inl (fun _ => 0))), (q33, .inr (7, [.ref q34, .ref q35, .ref q36, .ref q37])), (q34, .inl (w.2.1 0, 8, .inl (fun _ => 0))), (q35, .inl (w.2.1 0, 8, .inl (fun _ => 0))), (q36, .inl (w.2.1 3, 8, .inl (fun _ => 0))), (q37, .inl (w.2.1 0, 12, .inl (fun _ => 0))), (q38, .inr (2, [.ref q39, .int 0, .int 0, .int 0, .int 0])), (q39, .inl (w.2.1 0, 50, .inl (fun _ => 0))), (q40, .inl (w.2.1 4, 4, .inr (.inr (.inr (.inr (va_up (va_up (va_up (va_up (fun _ => none) (0 : Int32).toNatClampNeg (some q41)) (1 : Int32).toNatClampNeg (some q46)) (2 : Int32).toNatClampNeg (some q51)) (3 : Int32).toNatClampNeg (some q56))))))), (q41, .inr (4, [.ref q42, .ref q43, .ref q44, .int 0, .int 0, .int 0, .int 0, .int 0])), (q42, .inl (w.2.1 0, 400, .inl f45)), (q43, .inl (w.2.1 0, 3200, .inl (fun _ => 0))), (q44, .inl (w.2.1 0, 8, .inl (fun _ => 0))), (q46, .inr (4, [.ref q47, .ref q48, .ref q49, .int 0, .int 0, .int 0, .int 0, .int 0])), (q47, .inl (w.2.1 0, 400, .inl f50)), (q48, .inl (w.2.1 0, 3200, .inl (fun _ => 0))), (q49, .inl (w.2.1 0, 8, .inl (fun _ => 0))), (q51, .inr (4, [.ref q52, .ref q53, .ref q54, .int 0, .int 0, .int 0, .int 0, .int 0])), (q52, .inl (w.2.1 0, 400, .inl f55)), (q53, .inl (w.2.1 0, 3200, .inl (fun _ => 0))), (q54, .inl (w.2.1 0, 8, .inl (fun _ => 0))), (q56, .inr (4, [.ref q57, .ref q58, .ref q59, .int 0, .int 0, .int 0, .int 0, .int 0])), (q57, .inl (w.2.1 0, 400, .inl f60)), (q58, .inl (w.2.1 0, 3200, .inl (fun _ => 0))), (q59, .inl (w.2.1 0, 8, .inl (fun _ => 0)))]) 38 51 rfl rfl (by decide) d_X11_init_64 rfl rfl ?_
  refine pa_iinc (v := 4) d_X11_init_65 (by decide) (by decide) rfl ?_
  refine pa_goto (pc' := 47) d_X11_init_68 (by decide) ?_
  refine pa_iload 1 d_X11_init_47 rfl rfl rfl ?_
  refine pa_iconst (v := 4) d_X11_init_48 (by decide +kernel) rfl ?_
  refine pa_geT (pc' := 71) (by decide) d_X11_init_49 (by decide) ?_
  refine pa_aload 0 d_X11_init_71 rfl rfl rfl ?_
  refine pa_sipush (v := 400) d_X11_init_72 (by decide +kernel) rfl ?_
  refine pa_newI (N := 400) (by decide) (by decide) (by decide) (Nat.le_of_ble_eq_true rfl) (Nat.le_of_ble_eq_true rfl) d_X11_init_75 rfl (fun q61 => ?_)
  refine pa_putF (j := 4) (ws' := [(b, .inr (11, [.ref q1, .ref q33, .ref q38, .ref q40, .ref q61, .null, .null, .null, .null, .long 0])), (q1, .inr (6, [.ref q2, .ref q8, .int 0, .int 0, .int 0, .ref q9, .ref q14, .int (-1)])), (q2, .inr (1, [.ref q3, .ref q4, .ref q5, .ref q6, .ref q7, .int 0, .int 0, .int 0])), (q3, .inl (w.2.1 0, 1728, .inl (fun _ => 0))), (q4, .inl (w.2.1 0, 200, .inl (fun _ => 0))), (q5, .inl (w.2.1 1, 60, .inr (.inl (fun _ => 0)))), (q6, .inl (w.2.1 0, 60, .inl (fun _ => 0))), (q7, .inl (w.2.1 3, 60, .inl (fun _ => 0))), (q8, .inl (w.2.1 0, 2, .inl (fun _ => 0))), (q9, .inr (9, [.ref q10, .ref q11, .ref q12, .ref q13, .int 0, .int 0, .int 0, .int 0, .int 0, .long 0])), (q10, .inl (w.2.1 2, 4000, .inl (fun _ => 0))), (q11, .inl (w.2.1 0, 4001, .inl (fun _ => 0))), (q12, .inl (w.2.1 0, 4001, .inl (fun _ => 0))), (q13, .inl (w.2.1 1, 4001, .inr (.inl (fun _ => 0)))), (q14, .inr (0, [.ref q15, .ref q19, .ref q27])), (q15, .inr (3, [.ref q16, .ref q17, .ref q18, .int 0])), (q16, .inl (w.2.1 1, 16, .inr (.inl (fun _ => 0)))), (q17, .inl (w.2.1 0, 16, .inl (fun _ => 0))), (q18, .inl (w.2.1 0, 80, .inl (fun _ => 0))), (q19, .inr (8, [.ref q20, .ref q21, .ref q22, .ref q23, .ref q24, .ref q25, .ref q26, .int 0])), (q20, .inl (w.2.1 0, 256, .inl f31)), (q21, .inl (w.2.1 0, 60, .inl (fun _ => 0))), (q22, .inl (w.2.1 0, 60, .inl (fun _ => 0))), (q23, .inl (w.2.1 0, 60, .inl (fun _ => 0))), (q24, .inl (w.2.1 0, 720, .inl (fun _ => 0))), (q25, .inl (w.2.1 0, 5760, .inl (fun _ => 0))), (q26, .inl (w.2.1 0, 480, .inl (fun _ => 0))), (q27, .inr (4, [.ref q28, .ref q29, .ref q30, .int 0, .int 0, .int 0, .int 0, .int 0])), (q28, .inl (w.2.1 0, 400, .inl f32)), (q29, .inl (w.2.1 0, 3200, .inl (fun _ => 0))), (q30, .inl (w.2.1 0, 8, .inl (fun _ => 0))), (q33, .inr (7, [.ref q34, .ref q35, .ref q36, .ref q37])), (q34, .inl (w.2.1 0, 8, .inl (fun _ => 0))), (q35, .inl (w.2.1 0, 8, .inl (fun _ => 0))), (q36, .inl (w.2.1 3, 8, .inl (fun _ => 0))), (q37, .inl (w.2.1 0, 12, .inl (fun _ => 0))), (q38, .inr (2, [.ref q39, .int 0, .int 0, .int 0, .int 0])), (q39, .inl (w.2.1 0, 50, .inl (fun _ => 0))), (q40, .inl (w.2.1 4, 4, .inr (.inr (.inr (.inr (va_up (va_up (va_up (va_up (fun _ => none) (0 : Int32).toNatClampNeg (some q41)) (1 : Int32).toNatClampNeg (some q46)) (2 : Int32).toNatClampNeg (some q51)) (3 : Int32).toNatClampNeg (some q56))))))), (q41, .inr (4, [.ref q42, .ref q43, .ref q44, .int 0, .int 0, .int 0, .int 0, .int 0])), (q42, .inl (w.2.1 0, 400, .inl f45)), (q43, .inl (w.2.1 0, 3200, .inl (fun _ => 0))), (q44, .inl (w.2.1 0, 8, .inl (fun _ => 0))), (q46, .inr (4, [.ref q47, .ref q48, .ref q49, .int 0, .int 0, .int 0, .int 0, .int 0])), (q47, .inl (w.2.1 0, 400, .inl f50)), (q48, .inl (w.2.1 0, 3200, .inl (fun _ => 0))), (q49, .inl (w.2.1 0, 8, .inl (fun _ => 0))), (q51, .inr (4, [.ref q52, .ref q53, .ref q54, .int 0, .int 0, .int 0, .int 0, .int 0])), (q52, .inl (w.2.1 0, 400, .inl f55)), (q53, .inl (w.2.1 0, 3200, .inl (fun _ => 0))), (q54, .inl (w.2.1 0, 8, .inl (fun _ => 0))), (q56, .inr (4, [.ref q57, .ref q58, .ref q59, .int 0, .int 0, .int 0, .int 0, .int 0])), (q57, .inl (w.2.1 0, 400, .inl f60)), (q58, .inl (w.2.1 0, 3200, .inl (fun _ => 0))), (q59, .inl (w.2.1 0, 8, .inl (fun _ => 0))), (q61, .inl (w.2.1 0, 400, .inl (fun _ => 0)))]) 0 cf11 rfl (by decide) rfl rfl rfl rfl rfl (Nat.le_of_ble_eq_true rfl) gl_11_37 rfl d_X11_init_77 rfl ?_
  refine pa_aload 0 d_X11_init_80 rfl rfl rfl ?_
  refine pa_new (fs := [.null, .null, .int 0]) cf10 cl_11_41 xn_10 xi_10 df_10 (Nat.le_of_ble_eq_true rfl) (Nat.le_of_ble_eq_true rfl) d_X11_init_81 rfl (fun q62 => ?_)
  refine pa_dup d_X11_init_84 rfl rfl ?_
  refine pa_init (wr := [(b, .inr (11, [.ref q1, .ref q33, .ref q38, .ref q40, .ref q61, .null, .null, .null, .null, .long 0])), (q1, .inr (6, [.ref q2, .ref q8, .int 0, .int 0, .int 0, .ref q9, .ref q14, .int (-1)])), (q2, .inr (1, [.ref q3, .ref q4, .ref q5, .ref q6, .ref q7, .int 0, .int 0, .int 0])), (q3, .inl (w.2.1 0, 1728, .inl (fun _ => 0))), (q4, .inl (w.2.1 0, 200, .inl (fun _ => 0))), (q5, .inl (w.2.1 1, 60, .inr (.inl (fun _ => 0)))), (q6, .inl (w.2.1 0, 60, .inl (fun _ => 0))), (q7, .inl (w.2.1 3, 60, .inl (fun _ => 0))), (q8, .inl (w.2.1 0, 2, .inl (fun _ => 0))), (q9, .inr (9, [.ref q10, .ref q11, .ref q12, .ref q13, .int 0, .int 0, .int 0, .int 0, .int 0, .long 0])), (q10, .inl (w.2.1 2, 4000, .inl (fun _ => 0))), (q11, .inl (w.2.1 0, 4001, .inl (fun _ => 0))), (q12, .inl (w.2.1 0, 4001, .inl (fun _ => 0))), (q13, .inl (w.2.1 1, 4001, .inr (.inl (fun _ => 0)))), (q14, .inr (0, [.ref q15, .ref q19, .ref q27])), (q15, .inr (3, [.ref q16, .ref q17, .ref q18, .int 0])), (q16, .inl (w.2.1 1, 16, .inr (.inl (fun _ => 0)))), (q17, .inl (w.2.1 0, 16, .inl (fun _ => 0))), (q18, .inl (w.2.1 0, 80, .inl (fun _ => 0))), (q19, .inr (8, [.ref q20, .ref q21, .ref q22, .ref q23, .ref q24, .ref q25, .ref q26, .int 0])), (q20, .inl (w.2.1 0, 256, .inl f31)), (q21, .inl (w.2.1 0, 60, .inl (fun _ => 0))), (q22, .inl (w.2.1 0, 60, .inl (fun _ => 0))), (q23, .inl (w.2.1 0, 60, .inl (fun _ => 0))), (q24, .inl (w.2.1 0, 720, .inl (fun _ => 0))), (q25, .inl (w.2.1 0, 5760, .inl (fun _ => 0))), (q26, .inl (w.2.1 0, 480, .inl (fun _ => 0))), (q27, .inr (4, [.ref q28, .ref q29, .ref q30, .int 0, .int 0, .int 0, .int 0, .int 0])), (q28, .inl (w.2.1 0, 400, .inl f32)), (q29, .inl (w.2.1 0, 3200, .inl (fun _ => 0))), (q30, .inl (w.2.1 0, 8, .inl (fun _ => 0))), (q33, .inr (7, [.ref q34, .ref q35, .ref q36, .ref q37])), (q34, .inl (w.2.1 0, 8, .inl (fun _ => 0))), (q35, .inl (w.2.1 0, 8, .inl (fun _ => 0))), (q36, .inl (w.2.1 3, 8, .inl (fun _ => 0))), (q37, .inl (w.2.1 0, 12, .inl (fun _ => 0))), (q38, .inr (2, [.ref q39, .int 0, .int 0, .int 0, .int 0])), (q39, .inl (w.2.1 0, 50, .inl (fun _ => 0))), (q40, .inl (w.2.1 4, 4, .inr (.inr (.inr (.inr (va_up (va_up (va_up (va_up (fun _ => none) (0 : Int32).toNatClampNeg (some q41)) (1 : Int32).toNatClampNeg (some q46)) (2 : Int32).toNatClampNeg (some q51)) (3 : Int32).toNatClampNeg (some q56))))))), (q41, .inr (4, [.ref q42, .ref q43, .ref q44, .int 0, .int 0, .int 0, .int 0, .int 0])), (q42, .inl (w.2.1 0, 400, .inl f45)), (q43, .inl (w.2.1 0, 3200, .inl (fun _ => 0))), (q44, .inl (w.2.1 0, 8, .inl (fun _ => 0))), (q46, .inr (4, [.ref q47, .ref q48, .ref q49, .int 0, .int 0, .int 0, .int 0, .int 0])), (q47, .inl (w.2.1 0, 400, .inl f50)), (q48, .inl (w.2.1 0, 3200, .inl (fun _ => 0))), (q49, .inl (w.2.1 0, 8, .inl (fun _ => 0))), (q51, .inr (4, [.ref q52, .ref q53, .ref q54, .int 0, .int 0, .int 0, .int 0, .int 0])), (q52, .inl (w.2.1 0, 400, .inl f55)), (q53, .inl (w.2.1 0, 3200, .inl (fun _ => 0))), (q54, .inl (w.2.1 0, 8, .inl (fun _ => 0))), (q56, .inr (4, [.ref q57, .ref q58, .ref q59, .int 0, .int 0, .int 0, .int 0, .int 0])), (q57, .inl (w.2.1 0, 400, .inl f60)), (q58, .inl (w.2.1 0, 3200, .inl (fun _ => 0))), (q59, .inl (w.2.1 0, 8, .inl (fun _ => 0))), (q61, .inl (w.2.1 0, 400, .inl (fun _ => 0)))]) (ka_X10_init l w) ic_11_43 xm_10 rfl rfl rfl (Nat.le_of_ble_eq_true rfl) (Nat.le_of_ble_eq_true rfl) (Nat.le_of_ble_eq_true rfl) (Nat.le_of_ble_eq_true rfl) (Nat.le_of_ble_eq_true rfl) d_X11_init_85 rfl (fun w1 hw1 => ?_)
  obtain ⟨q63, q64, rfl⟩ := hw1
  refine pa_putF (j := 5) (ws' := [(b, .inr (11, [.ref q1, .ref q33, .ref q38, .ref q40, .ref q61, .ref q62, .null, .null, .null, .long 0])), (q1, .inr (6, [.ref q2, .ref q8, .int 0, .int 0, .int 0, .ref q9, .ref q14, .int (-1)])), (q2, .inr (1, [.ref q3, .ref q4, .ref q5, .ref q6, .ref q7, .int 0, .int 0, .int 0])), (q3, .inl (w.2.1 0, 1728, .inl (fun _ => 0))), (q4, .inl (w.2.1 0, 200, .inl (fun _ => 0))), (q5, .inl (w.2.1 1, 60, .inr (.inl (fun _ => 0)))), (q6, .inl (w.2.1 0, 60, .inl (fun _ => 0))), (q7, .inl (w.2.1 3, 60, .inl (fun _ => 0))), (q8, .inl (w.2.1 0, 2, .inl (fun _ => 0))), (q9, .inr (9, [.ref q10, .ref q11, .ref q12, .ref q13, .int 0, .int 0, .int 0, .int 0, .int 0, .long 0])), (q10, .inl (w.2.1 2, 4000, .inl (fun _ => 0))), (q11, .inl (w.2.1 0, 4001, .inl (fun _ => 0))), (q12, .inl (w.2.1 0, 4001, .inl (fun _ => 0))), (q13, .inl (w.2.1 1, 4001, .inr (.inl (fun _ => 0)))), (q14, .inr (0, [.ref q15, .ref q19, .ref q27])), (q15, .inr (3, [.ref q16, .ref q17, .ref q18, .int 0])), (q16, .inl (w.2.1 1, 16, .inr (.inl (fun _ => 0)))), (q17, .inl (w.2.1 0, 16, .inl (fun _ => 0))), (q18, .inl (w.2.1 0, 80, .inl (fun _ => 0))), (q19, .inr (8, [.ref q20, .ref q21, .ref q22, .ref q23, .ref q24, .ref q25, .ref q26, .int 0])), (q20, .inl (w.2.1 0, 256, .inl f31)), (q21, .inl (w.2.1 0, 60, .inl (fun _ => 0))), (q22, .inl (w.2.1 0, 60, .inl (fun _ => 0))), (q23, .inl (w.2.1 0, 60, .inl (fun _ => 0))), (q24, .inl (w.2.1 0, 720, .inl (fun _ => 0))), (q25, .inl (w.2.1 0, 5760, .inl (fun _ => 0))), (q26, .inl (w.2.1 0, 480, .inl (fun _ => 0))), (q27, .inr (4, [.ref q28, .ref q29, .ref q30, .int 0, .int 0, .int 0, .int 0, .int 0])), (q28, .inl (w.2.1 0, 400, .inl f32)), (q29, .inl (w.2.1 0, 3200, .inl (fun _ => 0))), (q30, .inl (w.2.1 0, 8, .inl (fun _ => 0))), (q33, .inr (7, [.ref q34, .ref q35, .ref q36, .ref q37])), (q34, .inl (w.2.1 0, 8, .inl (fun _ => 0))), (q35, .inl (w.2.1 0, 8, .inl (fun _ => 0))), (q36, .inl (w.2.1 3, 8, .inl (fun _ => 0))), (q37, .inl (w.2.1 0, 12, .inl (fun _ => 0))), (q38, .inr (2, [.ref q39, .int 0, .int 0, .int 0, .int 0])), (q39, .inl (w.2.1 0, 50, .inl (fun _ => 0))), (q40, .inl (w.2.1 4, 4, .inr (.inr (.inr (.inr (va_up (va_up (va_up (va_up (fun _ => none) (0 : Int32).toNatClampNeg (some q41)) (1 : Int32).toNatClampNeg (some q46)) (2 : Int32).toNatClampNeg (some q51)) (3 : Int32).toNatClampNeg (some q56))))))), (q41, .inr (4, [.ref q42, .ref q43, .ref q44, .int 0, .int 0, .int 0, .int 0, .int 0])), (q42, .inl (w.2.1 0, 400, .inl f45)), (q43, .inl (w.2.1 0, 3200, .inl (fun _ => 0))), (q44, .inl (w.2.1 0, 8, .inl (fun _ => 0))), (q46, .inr (4, [.ref q47, .ref q48, .ref q49, .int 0, .int 0, .int 0, .int 0, .int 0])), (q47, .inl (w.2.1 0, 400, .inl f50)), (q48, .inl (w.2.1 0, 3200, .inl (fun _ => 0))), (q49, .inl (w.2.1 0, 8, .inl (fun _ => 0))), (q51, .inr (4, [.ref q52, .ref q53, .ref q54, .int 0, .int 0, .int 0, .int 0, .int 0])), (q52, .inl (w.2.1 0, 400, .inl f55)), (q53, .inl (w.2.1 0, 3200, .inl (fun _ => 0))), (q54, .inl (w.2.1 0, 8, .inl (fun _ => 0))), (q56, .inr (4, [.ref q57, .ref q58, .ref q59, .int 0, .int 0, .int 0, .int 0, .int 0])), (q57, .inl (w.2.1 0, 400, .inl f60)), (q58, .inl (w.2.1 0, 3200, .inl (fun _ => 0))), (q59, .inl (w.2.1 0, 8, .inl (fun _ => 0))), (q61, .inl (w.2.1 0, 400, .inl (fun _ => 0))), (q62, .inr (10, [.ref q63, .ref q64, .int 0])), (q63, .inl (w.2.1 0, 400, .inl (fun _ => 0))), (q64, .inl (w.2.1 0, 400, .inl (fun _ => 0)))]) 0 cf11 rfl (by decide) rfl rfl rfl rfl rfl (Nat.le_of_ble_eq_true rfl) gl_11_44 rfl d_X11_init_88 rfl ?_
  refine pa_aload 0 d_X11_init_91 rfl rfl rfl ?_
  refine pa_new (fs := [.null, .null, .int 0]) cf10 cl_11_41 xn_10 xi_10 df_10 (Nat.le_of_ble_eq_true rfl) (Nat.le_of_ble_eq_true rfl) d_X11_init_92 rfl (fun q65 => ?_)
  refine pa_dup d_X11_init_95 rfl rfl ?_
  refine pa_init (wr := [(b, .inr (11, [.ref q1, .ref q33, .ref q38, .ref q40, .ref q61, .ref q62, .null, .null, .null, .long 0])), (q1, .inr (6, [.ref q2, .ref q8, .int 0, .int 0, .int 0, .ref q9, .ref q14, .int (-1)])), (q2, .inr (1, [.ref q3, .ref q4, .ref q5, .ref q6, .ref q7, .int 0, .int 0, .int 0])), (q3, .inl (w.2.1 0, 1728, .inl (fun _ => 0))), (q4, .inl (w.2.1 0, 200, .inl (fun _ => 0))), (q5, .inl (w.2.1 1, 60, .inr (.inl (fun _ => 0)))), (q6, .inl (w.2.1 0, 60, .inl (fun _ => 0))), (q7, .inl (w.2.1 3, 60, .inl (fun _ => 0))), (q8, .inl (w.2.1 0, 2, .inl (fun _ => 0))), (q9, .inr (9, [.ref q10, .ref q11, .ref q12, .ref q13, .int 0, .int 0, .int 0, .int 0, .int 0, .long 0])), (q10, .inl (w.2.1 2, 4000, .inl (fun _ => 0))), (q11, .inl (w.2.1 0, 4001, .inl (fun _ => 0))), (q12, .inl (w.2.1 0, 4001, .inl (fun _ => 0))), (q13, .inl (w.2.1 1, 4001, .inr (.inl (fun _ => 0)))), (q14, .inr (0, [.ref q15, .ref q19, .ref q27])), (q15, .inr (3, [.ref q16, .ref q17, .ref q18, .int 0])), (q16, .inl (w.2.1 1, 16, .inr (.inl (fun _ => 0)))), (q17, .inl (w.2.1 0, 16, .inl (fun _ => 0))), (q18, .inl (w.2.1 0, 80, .inl (fun _ => 0))), (q19, .inr (8, [.ref q20, .ref q21, .ref q22, .ref q23, .ref q24, .ref q25, .ref q26, .int 0])), (q20, .inl (w.2.1 0, 256, .inl f31)), (q21, .inl (w.2.1 0, 60, .inl (fun _ => 0))), (q22, .inl (w.2.1 0, 60, .inl (fun _ => 0))), (q23, .inl (w.2.1 0, 60, .inl (fun _ => 0))), (q24, .inl (w.2.1 0, 720, .inl (fun _ => 0))), (q25, .inl (w.2.1 0, 5760, .inl (fun _ => 0))), (q26, .inl (w.2.1 0, 480, .inl (fun _ => 0))), (q27, .inr (4, [.ref q28, .ref q29, .ref q30, .int 0, .int 0, .int 0, .int 0, .int 0])), (q28, .inl (w.2.1 0, 400, .inl f32)), (q29, .inl (w.2.1 0, 3200, .inl (fun _ => 0))), (q30, .inl (w.2.1 0, 8, .inl (fun _ => 0))), (q33, .inr (7, [.ref q34, .ref q35, .ref q36, .ref q37])), (q34, .inl (w.2.1 0, 8, .inl (fun _ => 0))), (q35, .inl (w.2.1 0, 8, .inl (fun _ => 0))), (q36, .inl (w.2.1 3, 8, .inl (fun _ => 0))), (q37, .inl (w.2.1 0, 12, .inl (fun _ => 0))), (q38, .inr (2, [.ref q39, .int 0, .int 0, .int 0, .int 0])), (q39, .inl (w.2.1 0, 50, .inl (fun _ => 0))), (q40, .inl (w.2.1 4, 4, .inr (.inr (.inr (.inr (va_up (va_up (va_up (va_up (fun _ => none) (0 : Int32).toNatClampNeg (some q41)) (1 : Int32).toNatClampNeg (some q46)) (2 : Int32).toNatClampNeg (some q51)) (3 : Int32).toNatClampNeg (some q56))))))), (q41, .inr (4, [.ref q42, .ref q43, .ref q44, .int 0, .int 0, .int 0, .int 0, .int 0])), (q42, .inl (w.2.1 0, 400, .inl f45)), (q43, .inl (w.2.1 0, 3200, .inl (fun _ => 0))), (q44, .inl (w.2.1 0, 8, .inl (fun _ => 0))), (q46, .inr (4, [.ref q47, .ref q48, .ref q49, .int 0, .int 0, .int 0, .int 0, .int 0])), (q47, .inl (w.2.1 0, 400, .inl f50)), (q48, .inl (w.2.1 0, 3200, .inl (fun _ => 0))), (q49, .inl (w.2.1 0, 8, .inl (fun _ => 0))), (q51, .inr (4, [.ref q52, .ref q53, .ref q54, .int 0, .int 0, .int 0, .int 0, .int 0])), (q52, .inl (w.2.1 0, 400, .inl f55)), (q53, .inl (w.2.1 0, 3200, .inl (fun _ => 0))), (q54, .inl (w.2.1 0, 8, .inl (fun _ => 0))), (q56, .inr (4, [.ref q57, .ref q58, .ref q59, .int 0, .int 0, .int 0, .int 0, .int 0])), (q57, .inl (w.2.1 0, 400, .inl f60)), (q58, .inl (w.2.1 0, 3200, .inl (fun _ => 0))), (q59, .inl (w.2.1 0, 8, .inl (fun _ => 0))), (q61, .inl (w.2.1 0, 400, .inl (fun _ => 0))), (q62, .inr (10, [.ref q63, .ref q64, .int 0])), (q63, .inl (w.2.1 0, 400, .inl (fun _ => 0))), (q64, .inl (w.2.1 0, 400, .inl (fun _ => 0)))]) (ka_X10_init l w) ic_11_43 xm_10 rfl rfl rfl (Nat.le_of_ble_eq_true rfl) (Nat.le_of_ble_eq_true rfl) (Nat.le_of_ble_eq_true rfl) (Nat.le_of_ble_eq_true rfl) (Nat.le_of_ble_eq_true rfl) d_X11_init_96 rfl (fun w1 hw1 => ?_)
  obtain ⟨q66, q67, rfl⟩ := hw1
  refine pa_putF (j := 6) (ws' := [(b, .inr (11, [.ref q1, .ref q33, .ref q38, .ref q40, .ref q61, .ref q62, .ref q65, .null, .null, .long 0])), (q1, .inr (6, [.ref q2, .ref q8, .int 0, .int 0, .int 0, .ref q9, .ref q14, .int (-1)])), (q2, .inr (1, [.ref q3, .ref q4, .ref q5, .ref q6, .ref q7, .int 0, .int 0, .int 0])), (q3, .inl (w.2.1 0, 1728, .inl (fun _ => 0))), (q4, .inl (w.2.1 0, 200, .inl (fun _ => 0))), (q5, .inl (w.2.1 1, 60, .inr (.inl (fun _ => 0)))), (q6, .inl (w.2.1 0, 60, .inl (fun _ => 0))), (q7, .inl (w.2.1 3, 60, .inl (fun _ => 0))), (q8, .inl (w.2.1 0, 2, .inl (fun _ => 0))), (q9, .inr (9, [.ref q10, .ref q11, .ref q12, .ref q13, .int 0, .int 0, .int 0, .int 0, .int 0, .long 0])), (q10, .inl (w.2.1 2, 4000, .inl (fun _ => 0))), (q11, .inl (w.2.1 0, 4001, .inl (fun _ => 0))), (q12, .inl (w.2.1 0, 4001, .inl (fun _ => 0))), (q13, .inl (w.2.1 1, 4001, .inr (.inl (fun _ => 0)))), (q14, .inr (0, [.ref q15, .ref q19, .ref q27])), (q15, .inr (3, [.ref q16, .ref q17, .ref q18, .int 0])), (q16, .inl (w.2.1 1, 16, .inr (.inl (fun _ => 0)))), (q17, .inl (w.2.1 0, 16, .inl (fun _ => 0))), (q18, .inl (w.2.1 0, 80, .inl (fun _ => 0))), (q19, .inr (8, [.ref q20, .ref q21, .ref q22, .ref q23, .ref q24, .ref q25, .ref q26, .int 0])), (q20, .inl (w.2.1 0, 256, .inl f31)), (q21, .inl (w.2.1 0, 60, .inl (fun _ => 0))), (q22, .inl (w.2.1 0, 60, .inl (fun _ => 0))), (q23, .inl (w.2.1 0, 60, .inl (fun _ => 0))), (q24, .inl (w.2.1 0, 720, .inl (fun _ => 0))), (q25, .inl (w.2.1 0, 5760, .inl (fun _ => 0))), (q26, .inl (w.2.1 0, 480, .inl (fun _ => 0))), (q27, .inr (4, [.ref q28, .ref q29, .ref q30, .int 0, .int 0, .int 0, .int 0, .int 0])), (q28, .inl (w.2.1 0, 400, .inl f32)), (q29, .inl (w.2.1 0, 3200, .inl (fun _ => 0))), (q30, .inl (w.2.1 0, 8, .inl (fun _ => 0))), (q33, .inr (7, [.ref q34, .ref q35, .ref q36, .ref q37])), (q34, .inl (w.2.1 0, 8, .inl (fun _ => 0))), (q35, .inl (w.2.1 0, 8, .inl (fun _ => 0))), (q36, .inl (w.2.1 3, 8, .inl (fun _ => 0))), (q37, .inl (w.2.1 0, 12, .inl (fun _ => 0))), (q38, .inr (2, [.ref q39, .int 0, .int 0, .int 0, .int 0])), (q39, .inl (w.2.1 0, 50, .inl (fun _ => 0))), (q40, .inl (w.2.1 4, 4, .inr (.inr (.inr (.inr (va_up (va_up (va_up (va_up (fun _ => none) (0 : Int32).toNatClampNeg (some q41)) (1 : Int32).toNatClampNeg (some q46)) (2 : Int32).toNatClampNeg (some q51)) (3 : Int32).toNatClampNeg (some q56))))))), (q41, .inr (4, [.ref q42, .ref q43, .ref q44, .int 0, .int 0, .int 0, .int 0, .int 0])), (q42, .inl (w.2.1 0, 400, .inl f45)), (q43, .inl (w.2.1 0, 3200, .inl (fun _ => 0))), (q44, .inl (w.2.1 0, 8, .inl (fun _ => 0))), (q46, .inr (4, [.ref q47, .ref q48, .ref q49, .int 0, .int 0, .int 0, .int 0, .int 0])), (q47, .inl (w.2.1 0, 400, .inl f50)), (q48, .inl (w.2.1 0, 3200, .inl (fun _ => 0))), (q49, .inl (w.2.1 0, 8, .inl (fun _ => 0))), (q51, .inr (4, [.ref q52, .ref q53, .ref q54, .int 0, .int 0, .int 0, .int 0, .int 0])), (q52, .inl (w.2.1 0, 400, .inl f55)), (q53, .inl (w.2.1 0, 3200, .inl (fun _ => 0))), (q54, .inl (w.2.1 0, 8, .inl (fun _ => 0))), (q56, .inr (4, [.ref q57, .ref q58, .ref q59, .int 0, .int 0, .int 0, .int 0, .int 0])), (q57, .inl (w.2.1 0, 400, .inl f60)), (q58, .inl (w.2.1 0, 3200, .inl (fun _ => 0))), (q59, .inl (w.2.1 0, 8, .inl (fun _ => 0))), (q61, .inl (w.2.1 0, 400, .inl (fun _ => 0))), (q62, .inr (10, [.ref q63, .ref q64, .int 0])), (q63, .inl (w.2.1 0, 400, .inl (fun _ => 0))), (q64, .inl (w.2.1 0, 400, .inl (fun _ => 0))), (q65, .inr (10, [.ref q66, .ref q67, .int 0])), (q66, .inl (w.2.1 0, 400, .inl (fun _ => 0))), (q67, .inl (w.2.1 0, 400, .inl (fun _ => 0)))]) 0 cf11 rfl (by decide) rfl rfl rfl rfl rfl (Nat.le_of_ble_eq_true rfl) gl_11_48 rfl d_X11_init_99 rfl ?_
  refine pa_aload 0 d_X11_init_102 rfl rfl rfl ?_
  refine pa_new (fs := [.null, .int 0]) cf5 cl_11_51 xn_5 xi_5 df_5 (Nat.le_of_ble_eq_true rfl) (Nat.le_of_ble_eq_true rfl) d_X11_init_103 rfl (fun q68 => ?_)
  refine pa_dup d_X11_init_106 rfl rfl ?_
  refine pa_init (wr := [(b, .inr (11, [.ref q1, .ref q33, .ref q38, .ref q40, .ref q61, .ref q62, .ref q65, .null, .null, .long 0])), (q1, .inr (6, [.ref q2, .ref q8, .int 0, .int 0, .int 0, .ref q9, .ref q14, .int (-1)])), (q2, .inr (1, [.ref q3, .ref q4, .ref q5, .ref q6, .ref q7, .int 0, .int 0, .int 0])), (q3, .inl (w.2.1 0, 1728, .inl (fun _ => 0))), (q4, .inl (w.2.1 0, 200, .inl (fun _ => 0))), (q5, .inl (w.2.1 1, 60, .inr (.inl (fun _ => 0)))), (q6, .inl (w.2.1 0, 60, .inl (fun _ => 0))), (q7, .inl (w.2.1 3, 60, .inl (fun _ => 0))), (q8, .inl (w.2.1 0, 2, .inl (fun _ => 0))), (q9, .inr (9, [.ref q10, .ref q11, .ref q12, .ref q13, .int 0, .int 0, .int 0, .int 0, .int 0, .long 0])), (q10, .inl (w.2.1 2, 4000, .inl (fun _ => 0))), (q11, .inl (w.2.1 0, 4001, .inl (fun _ => 0))), (q12, .inl (w.2.1 0, 4001, .inl (fun _ => 0))), (q13, .inl (w.2.1 1, 4001, .inr (.inl (fun _ => 0)))), (q14, .inr (0, [.ref q15, .ref q19, .ref q27])), (q15, .inr (3, [.ref q16, .ref q17, .ref q18, .int 0])), (q16, .inl (w.2.1 1, 16, .inr (.inl (fun _ => 0)))), (q17, .inl (w.2.1 0, 16, .inl (fun _ => 0))), (q18, .inl (w.2.1 0, 80, .inl (fun _ => 0))), (q19, .inr (8, [.ref q20, .ref q21, .ref q22, .ref q23, .ref q24, .ref q25, .ref q26, .int 0])), (q20, .inl (w.2.1 0, 256, .inl f31)), (q21, .inl (w.2.1 0, 60, .inl (fun _ => 0))), (q22, .inl (w.2.1 0, 60, .inl (fun _ => 0))), (q23, .inl (w.2.1 0, 60, .inl (fun _ => 0))), (q24, .inl (w.2.1 0, 720, .inl (fun _ => 0))), (q25, .inl (w.2.1 0, 5760, .inl (fun _ => 0))), (q26, .inl (w.2.1 0, 480, .inl (fun _ => 0))), (q27, .inr (4, [.ref q28, .ref q29, .ref q30, .int 0, .int 0, .int 0, .int 0, .int 0])), (q28, .inl (w.2.1 0, 400, .inl f32)), (q29, .inl (w.2.1 0, 3200, .inl (fun _ => 0))), (q30, .inl (w.2.1 0, 8, .inl (fun _ => 0))), (q33, .inr (7, [.ref q34, .ref q35, .ref q36, .ref q37])), (q34, .inl (w.2.1 0, 8, .inl (fun _ => 0))), (q35, .inl (w.2.1 0, 8, .inl (fun _ => 0))), (q36, .inl (w.2.1 3, 8, .inl (fun _ => 0))), (q37, .inl (w.2.1 0, 12, .inl (fun _ => 0))), (q38, .inr (2, [.ref q39, .int 0, .int 0, .int 0, .int 0])), (q39, .inl (w.2.1 0, 50, .inl (fun _ => 0))), (q40, .inl (w.2.1 4, 4, .inr (.inr (.inr (.inr (va_up (va_up (va_up (va_up (fun _ => none) (0 : Int32).toNatClampNeg (some q41)) (1 : Int32).toNatClampNeg (some q46)) (2 : Int32).toNatClampNeg (some q51)) (3 : Int32).toNatClampNeg (some q56))))))), (q41, .inr (4, [.ref q42, .ref q43, .ref q44, .int 0, .int 0, .int 0, .int 0, .int 0])), (q42, .inl (w.2.1 0, 400, .inl f45)), (q43, .inl (w.2.1 0, 3200, .inl (fun _ => 0))), (q44, .inl (w.2.1 0, 8, .inl (fun _ => 0))), (q46, .inr (4, [.ref q47, .ref q48, .ref q49, .int 0, .int 0, .int 0, .int 0, .int 0])), (q47, .inl (w.2.1 0, 400, .inl f50)), (q48, .inl (w.2.1 0, 3200, .inl (fun _ => 0))), (q49, .inl (w.2.1 0, 8, .inl (fun _ => 0))), (q51, .inr (4, [.ref q52, .ref q53, .ref q54, .int 0, .int 0, .int 0, .int 0, .int 0])), (q52, .inl (w.2.1 0, 400, .inl f55)), (q53, .inl (w.2.1 0, 3200, .inl (fun _ => 0))), (q54, .inl (w.2.1 0, 8, .inl (fun _ => 0))), (q56, .inr (4, [.ref q57, .ref q58, .ref q59, .int 0, .int 0, .int 0, .int 0, .int 0])), (q57, .inl (w.2.1 0, 400, .inl f60)), (q58, .inl (w.2.1 0, 3200, .inl (fun _ => 0))), (q59, .inl (w.2.1 0, 8, .inl (fun _ => 0))), (q61, .inl (w.2.1 0, 400, .inl (fun _ => 0))), (q62, .inr (10, [.ref q63, .ref q64, .int 0])), (q63, .inl (w.2.1 0, 400, .inl (fun _ => 0))), (q64, .inl (w.2.1 0, 400, .inl (fun _ => 0))), (q65, .inr (10, [.ref q66, .ref q67, .int 0])), (q66, .inl (w.2.1 0, 400, .inl (fun _ => 0))), (q67, .inl (w.2.1 0, 400, .inl (fun _ => 0)))]) (ka_X5_init l w) ic_11_53 xm_5 rfl rfl rfl (Nat.le_of_ble_eq_true rfl) (Nat.le_of_ble_eq_true rfl) (Nat.le_of_ble_eq_true rfl) (Nat.le_of_ble_eq_true rfl) (Nat.le_of_ble_eq_true rfl) d_X11_init_107 rfl (fun w1 hw1 => ?_)
  obtain ⟨q69, rfl⟩ := hw1
  refine pa_putF (j := 7) (ws' := [(b, .inr (11, [.ref q1, .ref q33, .ref q38, .ref q40, .ref q61, .ref q62, .ref q65, .ref q68, .null, .long 0])), (q1, .inr (6, [.ref q2, .ref q8, .int 0, .int 0, .int 0, .ref q9, .ref q14, .int (-1)])), (q2, .inr (1, [.ref q3, .ref q4, .ref q5, .ref q6, .ref q7, .int 0, .int 0, .int 0])), (q3, .inl (w.2.1 0, 1728, .inl (fun _ => 0))), (q4, .inl (w.2.1 0, 200, .inl (fun _ => 0))), (q5, .inl (w.2.1 1, 60, .inr (.inl (fun _ => 0)))), (q6, .inl (w.2.1 0, 60, .inl (fun _ => 0))), (q7, .inl (w.2.1 3, 60, .inl (fun _ => 0))), (q8, .inl (w.2.1 0, 2, .inl (fun _ => 0))), (q9, .inr (9, [.ref q10, .ref q11, .ref q12, .ref q13, .int 0, .int 0, .int 0, .int 0, .int 0, .long 0])), (q10, .inl (w.2.1 2, 4000, .inl (fun _ => 0))), (q11, .inl (w.2.1 0, 4001, .inl (fun _ => 0))), (q12, .inl (w.2.1 0, 4001, .inl (fun _ => 0))), (q13, .inl (w.2.1 1, 4001, .inr (.inl (fun _ => 0)))), (q14, .inr (0, [.ref q15, .ref q19, .ref q27])), (q15, .inr (3, [.ref q16, .ref q17, .ref q18, .int 0])), (q16, .inl (w.2.1 1, 16, .inr (.inl (fun _ => 0)))), (q17, .inl (w.2.1 0, 16, .inl (fun _ => 0))), (q18, .inl (w.2.1 0, 80, .inl (fun _ => 0))), (q19, .inr (8, [.ref q20, .ref q21, .ref q22, .ref q23, .ref q24, .ref q25, .ref q26, .int 0])), (q20, .inl (w.2.1 0, 256, .inl f31)), (q21, .inl (w.2.1 0, 60, .inl (fun _ => 0))), (q22, .inl (w.2.1 0, 60, .inl (fun _ => 0))), (q23, .inl (w.2.1 0, 60, .inl (fun _ => 0))), (q24, .inl (w.2.1 0, 720, .inl (fun _ => 0))), (q25, .inl (w.2.1 0, 5760, .inl (fun _ => 0))), (q26, .inl (w.2.1 0, 480, .inl (fun _ => 0))), (q27, .inr (4, [.ref q28, .ref q29, .ref q30, .int 0, .int 0, .int 0, .int 0, .int 0])), (q28, .inl (w.2.1 0, 400, .inl f32)), (q29, .inl (w.2.1 0, 3200, .inl (fun _ => 0))), (q30, .inl (w.2.1 0, 8, .inl (fun _ => 0))), (q33, .inr (7, [.ref q34, .ref q35, .ref q36, .ref q37])), (q34, .inl (w.2.1 0, 8, .inl (fun _ => 0))), (q35, .inl (w.2.1 0, 8, .inl (fun _ => 0))), (q36, .inl (w.2.1 3, 8, .inl (fun _ => 0))), (q37, .inl (w.2.1 0, 12, .inl (fun _ => 0))), (q38, .inr (2, [.ref q39, .int 0, .int 0, .int 0, .int 0])), (q39, .inl (w.2.1 0, 50, .inl (fun _ => 0))), (q40, .inl (w.2.1 4, 4, .inr (.inr (.inr (.inr (va_up (va_up (va_up (va_up (fun _ => none) (0 : Int32).toNatClampNeg (some q41)) (1 : Int32).toNatClampNeg (some q46)) (2 : Int32).toNatClampNeg (some q51)) (3 : Int32).toNatClampNeg (some q56))))))), (q41, .inr (4, [.ref q42, .ref q43, .ref q44, .int 0, .int 0, .int 0, .int 0, .int 0])), (q42, .inl (w.2.1 0, 400, .inl f45)), (q43, .inl (w.2.1 0, 3200, .inl (fun _ => 0))), (q44, .inl (w.2.1 0, 8, .inl (fun _ => 0))), (q46, .inr (4, [.ref q47, .ref q48, .ref q49, .int 0, .int 0, .int 0, .int 0, .int 0])), (q47, .inl (w.2.1 0, 400, .inl f50)), (q48, .inl (w.2.1 0, 3200, .inl (fun _ => 0))), (q49, .inl (w.2.1 0, 8, .inl (fun _ => 0))), (q51, .inr (4, [.ref q52, .ref q53, .ref q54, .int 0, .int 0, .int 0, .int 0, .int 0])), (q52, .inl (w.2.1 0, 400, .inl f55)), (q53, .inl (w.2.1 0, 3200, .inl (fun _ => 0))), (q54, .inl (w.2.1 0, 8, .inl (fun _ => 0))), (q56, .inr (4, [.ref q57, .ref q58, .ref q59, .int 0, .int 0, .int 0, .int 0, .int 0])), (q57, .inl (w.2.1 0, 400, .inl f60)), (q58, .inl (w.2.1 0, 3200, .inl (fun _ => 0))), (q59, .inl (w.2.1 0, 8, .inl (fun _ => 0))), (q61, .inl (w.2.1 0, 400, .inl (fun _ => 0))), (q62, .inr (10, [.ref q63, .ref q64, .int 0])), (q63, .inl (w.2.1 0, 400, .inl (fun _ => 0))), (q64, .inl (w.2.1 0, 400, .inl (fun _ => 0))), (q65, .inr (10, [.ref q66, .ref q67, .int 0])), (q66, .inl (w.2.1 0, 400, .inl (fun _ => 0))), (q67, .inl (w.2.1 0, 400, .inl (fun _ => 0))), (q68, .inr (5, [.ref q69, .int 0])), (q69, .inl (w.2.1 2, 4000, .inl (fun _ => 0)))]) 0 cf11 rfl (by decide) rfl rfl rfl rfl rfl (Nat.le_of_ble_eq_true rfl) gl_11_54 rfl d_X11_init_110 rfl ?_
  refine pa_aload 0 d_X11_init_113 rfl rfl rfl ?_
  refine pa_new (fs := [.null, .null, .null]) cf0 cl_11_58 xn_0 xi_0 df_0 (Nat.le_of_ble_eq_true rfl) (Nat.le_of_ble_eq_true rfl) d_X11_init_114 rfl (fun q70 => ?_)
  refine pa_dup d_X11_init_117 rfl rfl ?_
  refine pa_init (wr := [(b, .inr (11, [.ref q1, .ref q33, .ref q38, .ref q40, .ref q61, .ref q62, .ref q65, .ref q68, .null, .long 0])), (q1, .inr (6, [.ref q2, .ref q8, .int 0, .int 0, .int 0, .ref q9, .ref q14, .int (-1)])), (q2, .inr (1, [.ref q3, .ref q4, .ref q5, .ref q6, .ref q7, .int 0, .int 0, .int 0])), (q3, .inl (w.2.1 0, 1728, .inl (fun _ => 0))), (q4, .inl (w.2.1 0, 200, .inl (fun _ => 0))), (q5, .inl (w.2.1 1, 60, .inr (.inl (fun _ => 0)))), (q6, .inl (w.2.1 0, 60, .inl (fun _ => 0))), (q7, .inl (w.2.1 3, 60, .inl (fun _ => 0))), (q8, .inl (w.2.1 0, 2, .inl (fun _ => 0))), (q9, .inr (9, [.ref q10, .ref q11, .ref q12, .ref q13, .int 0, .int 0, .int 0, .int 0, .int 0, .long 0])), (q10, .inl (w.2.1 2, 4000, .inl (fun _ => 0))), (q11, .inl (w.2.1 0, 4001, .inl (fun _ => 0))), (q12, .inl (w.2.1 0, 4001, .inl (fun _ => 0))), (q13, .inl (w.2.1 1, 4001, .inr (.inl (fun _ => 0)))), (q14, .inr (0, [.ref q15, .ref q19, .ref q27])), (q15, .inr (3, [.ref q16, .ref q17, .ref q18, .int 0])), (q16, .inl (w.2.1 1, 16, .inr (.inl (fun _ => 0)))), (q17, .inl (w.2.1 0, 16, .inl (fun _ => 0))), (q18, .inl (w.2.1 0, 80, .inl (fun _ => 0))), (q19, .inr (8, [.ref q20, .ref q21, .ref q22, .ref q23, .ref q24, .ref q25, .ref q26, .int 0])), (q20, .inl (w.2.1 0, 256, .inl f31)), (q21, .inl (w.2.1 0, 60, .inl (fun _ => 0))), (q22, .inl (w.2.1 0, 60, .inl (fun _ => 0))), (q23, .inl (w.2.1 0, 60, .inl (fun _ => 0))), (q24, .inl (w.2.1 0, 720, .inl (fun _ => 0))), (q25, .inl (w.2.1 0, 5760, .inl (fun _ => 0))), (q26, .inl (w.2.1 0, 480, .inl (fun _ => 0))), (q27, .inr (4, [.ref q28, .ref q29, .ref q30, .int 0, .int 0, .int 0, .int 0, .int 0])), (q28, .inl (w.2.1 0, 400, .inl f32)), (q29, .inl (w.2.1 0, 3200, .inl (fun _ => 0))), (q30, .inl (w.2.1 0, 8, .inl (fun _ => 0))), (q33, .inr (7, [.ref q34, .ref q35, .ref q36, .ref q37])), (q34, .inl (w.2.1 0, 8, .inl (fun _ => 0))), (q35, .inl (w.2.1 0, 8, .inl (fun _ => 0))), (q36, .inl (w.2.1 3, 8, .inl (fun _ => 0))), (q37, .inl (w.2.1 0, 12, .inl (fun _ => 0))), (q38, .inr (2, [.ref q39, .int 0, .int 0, .int 0, .int 0])), (q39, .inl (w.2.1 0, 50, .inl (fun _ => 0))), (q40, .inl (w.2.1 4, 4, .inr (.inr (.inr (.inr (va_up (va_up (va_up (va_up (fun _ => none) (0 : Int32).toNatClampNeg (some q41)) (1 : Int32).toNatClampNeg (some q46)) (2 : Int32).toNatClampNeg (some q51)) (3 : Int32).toNatClampNeg (some q56))))))), (q41, .inr (4, [.ref q42, .ref q43, .ref q44, .int 0, .int 0, .int 0, .int 0, .int 0])), (q42, .inl (w.2.1 0, 400, .inl f45)), (q43, .inl (w.2.1 0, 3200, .inl (fun _ => 0))), (q44, .inl (w.2.1 0, 8, .inl (fun _ => 0))), (q46, .inr (4, [.ref q47, .ref q48, .ref q49, .int 0, .int 0, .int 0, .int 0, .int 0])), (q47, .inl (w.2.1 0, 400, .inl f50)), (q48, .inl (w.2.1 0, 3200, .inl (fun _ => 0))), (q49, .inl (w.2.1 0, 8, .inl (fun _ => 0))), (q51, .inr (4, [.ref q52, .ref q53, .ref q54, .int 0, .int 0, .int 0, .int 0, .int 0])), (q52, .inl (w.2.1 0, 400, .inl f55)), (q53, .inl (w.2.1 0, 3200, .inl (fun _ => 0))), (q54, .inl (w.2.1 0, 8, .inl (fun _ => 0))), (q56, .inr (4, [.ref q57, .ref q58, .ref q59, .int 0, .int 0, .int 0, .int 0, .int 0])), (q57, .inl (w.2.1 0, 400, .inl f60)), (q58, .inl (w.2.1 0, 3200, .inl (fun _ => 0))), (q59, .inl (w.2.1 0, 8, .inl (fun _ => 0))), (q61, .inl (w.2.1 0, 400, .inl (fun _ => 0))), (q62, .inr (10, [.ref q63, .ref q64, .int 0])), (q63, .inl (w.2.1 0, 400, .inl (fun _ => 0))), (q64, .inl (w.2.1 0, 400, .inl (fun _ => 0))), (q65, .inr (10, [.ref q66, .ref q67, .int 0])), (q66, .inl (w.2.1 0, 400, .inl (fun _ => 0))), (q67, .inl (w.2.1 0, 400, .inl (fun _ => 0))), (q68, .inr (5, [.ref q69, .int 0])), (q69, .inl (w.2.1 2, 4000, .inl (fun _ => 0)))]) (ka_X0_init l w) ic_11_60 xm_0 rfl rfl rfl (Nat.le_of_ble_eq_true rfl) (Nat.le_of_ble_eq_true rfl) (Nat.le_of_ble_eq_true rfl) (Nat.le_of_ble_eq_true rfl) (Nat.le_of_ble_eq_true rfl) d_X11_init_118 rfl (fun w1 hw1 => ?_)
  obtain ⟨q71, q72, q73, q74, q75, q76, q77, q78, q79, q80, q81, q82, q83, q84, q85, q86, f87, f88, rfl, hf87, hf88⟩ := hw1
  refine pa_put (j := 8) (ws' := [(b, .inr (11, [.ref q1, .ref q33, .ref q38, .ref q40, .ref q61, .ref q62, .ref q65, .ref q68, .ref q70, .long 0])), (q1, .inr (6, [.ref q2, .ref q8, .int 0, .int 0, .int 0, .ref q9, .ref q14, .int (-1)])), (q2, .inr (1, [.ref q3, .ref q4, .ref q5, .ref q6, .ref q7, .int 0, .int 0, .int 0])), (q3, .inl (w.2.1 0, 1728, .inl (fun _ => 0))), (q4, .inl (w.2.1 0, 200, .inl (fun _ => 0))), (q5, .inl (w.2.1 1, 60, .inr (.inl (fun _ => 0)))), (q6, .inl (w.2.1 0, 60, .inl (fun _ => 0))), (q7, .inl (w.2.1 3, 60, .inl (fun _ => 0))), (q8, .inl (w.2.1 0, 2, .inl (fun _ => 0))), (q9, .inr (9, [.ref q10, .ref q11, .ref q12, .ref q13, .int 0, .int 0, .int 0, .int 0, .int 0, .long 0])), (q10, .inl (w.2.1 2, 4000, .inl (fun _ => 0))), (q11, .inl (w.2.1 0, 4001, .inl (fun _ => 0))), (q12, .inl (w.2.1 0, 4001, .inl (fun _ => 0))), (q13, .inl (w.2.1 1, 4001, .inr (.inl (fun _ => 0)))), (q14, .inr (0, [.ref q15, .ref q19, .ref q27])), (q15, .inr (3, [.ref q16, .ref q17, .ref q18, .int 0])), (q16, .inl (w.2.1 1, 16, .inr (.inl (fun _ => 0)))), (q17, .inl (w.2.1 0, 16, .inl (fun _ => 0))), (q18, .inl (w.2.1 0, 80, .inl (fun _ => 0))), (q19, .inr (8, [.ref q20, .ref q21, .ref q22, .ref q23, .ref q24, .ref q25, .ref q26, .int 0])), (q20, .inl (w.2.1 0, 256, .inl f31)), (q21, .inl (w.2.1 0, 60, .inl (fun _ => 0))), (q22, .inl (w.2.1 0, 60, .inl (fun _ => 0))), (q23, .inl (w.2.1 0, 60, .inl (fun _ => 0))), (q24, .inl (w.2.1 0, 720, .inl (fun _ => 0))), (q25, .inl (w.2.1 0, 5760, .inl (fun _ => 0))), (q26, .inl (w.2.1 0, 480, .inl (fun _ => 0))), (q27, .inr (4, [.ref q28, .ref q29, .ref q30, .int 0, .int 0, .int 0, .int 0, .int 0])), (q28, .inl (w.2.1 0, 400, .inl f32)), (q29, .inl (w.2.1 0, 3200, .inl (fun _ => 0))), (q30, .inl (w.2.1 0, 8, .inl (fun _ => 0))), (q33, .inr (7, [.ref q34, .ref q35, .ref q36, .ref q37])), (q34, .inl (w.2.1 0, 8, .inl (fun _ => 0))), (q35, .inl (w.2.1 0, 8, .inl (fun _ => 0))), (q36, .inl (w.2.1 3, 8, .inl (fun _ => 0))), (q37, .inl (w.2.1 0, 12, .inl (fun _ => 0))), (q38, .inr (2, [.ref q39, .int 0, .int 0, .int 0, .int 0])), (q39, .inl (w.2.1 0, 50, .inl (fun _ => 0))), (q40, .inl (w.2.1 4, 4, .inr (.inr (.inr (.inr (va_up (va_up (va_up (va_up (fun _ => none) (0 : Int32).toNatClampNeg (some q41)) (1 : Int32).toNatClampNeg (some q46)) (2 : Int32).toNatClampNeg (some q51)) (3 : Int32).toNatClampNeg (some q56))))))), (q41, .inr (4, [.ref q42, .ref q43, .ref q44, .int 0, .int 0, .int 0, .int 0, .int 0])), (q42, .inl (w.2.1 0, 400, .inl f45)), (q43, .inl (w.2.1 0, 3200, .inl (fun _ => 0))), (q44, .inl (w.2.1 0, 8, .inl (fun _ => 0))), (q46, .inr (4, [.ref q47, .ref q48, .ref q49, .int 0, .int 0, .int 0, .int 0, .int 0])), (q47, .inl (w.2.1 0, 400, .inl f50)), (q48, .inl (w.2.1 0, 3200, .inl (fun _ => 0))), (q49, .inl (w.2.1 0, 8, .inl (fun _ => 0))), (q51, .inr (4, [.ref q52, .ref q53, .ref q54, .int 0, .int 0, .int 0, .int 0, .int 0])), (q52, .inl (w.2.1 0, 400, .inl f55)), (q53, .inl (w.2.1 0, 3200, .inl (fun _ => 0))), (q54, .inl (w.2.1 0, 8, .inl (fun _ => 0))), (q56, .inr (4, [.ref q57, .ref q58, .ref q59, .int 0, .int 0, .int 0, .int 0, .int 0])), (q57, .inl (w.2.1 0, 400, .inl f60)), (q58, .inl (w.2.1 0, 3200, .inl (fun _ => 0))), (q59, .inl (w.2.1 0, 8, .inl (fun _ => 0))), (q61, .inl (w.2.1 0, 400, .inl (fun _ => 0))), (q62, .inr (10, [.ref q63, .ref q64, .int 0])), (q63, .inl (w.2.1 0, 400, .inl (fun _ => 0))), (q64, .inl (w.2.1 0, 400, .inl (fun _ => 0))), (q65, .inr (10, [.ref q66, .ref q67, .int 0])), (q66, .inl (w.2.1 0, 400, .inl (fun _ => 0))), (q67, .inl (w.2.1 0, 400, .inl (fun _ => 0))), (q68, .inr (5, [.ref q69, .int 0])), (q69, .inl (w.2.1 2, 4000, .inl (fun _ => 0))), (q70, .inr (0, [.ref q71, .ref q75, .ref q83])), (q71, .inr (3, [.ref q72, .ref q73, .ref q74, .int 0])), (q72, .inl (w.2.1 1, 16, .inr (.inl (fun _ => 0)))), (q73, .inl (w.2.1 0, 16, .inl (fun _ => 0))), (q74, .inl (w.2.1 0, 80, .inl (fun _ => 0))), (q75, .inr (8, [.ref q76, .ref q77, .ref q78, .ref q79, .ref q80, .ref q81, .ref q82, .int 0])), (q76, .inl (w.2.1 0, 256, .inl f87)), (q77, .inl (w.2.1 0, 60, .inl (fun _ => 0))), (q78, .inl (w.2.1 0, 60, .inl (fun _ => 0))), (q79, .inl (w.2.1 0, 60, .inl (fun _ => 0))), (q80, .inl (w.2.1 0, 720, .inl (fun _ => 0))), (q81, .inl (w.2.1 0, 5760, .inl (fun _ => 0))), (q82, .inl (w.2.1 0, 480, .inl (fun _ => 0))), (q83, .inr (4, [.ref q84, .ref q85, .ref q86, .int 0, .int 0, .int 0, .int 0, .int 0])), (q84, .inl (w.2.1 0, 400, .inl f88)), (q85, .inl (w.2.1 0, 3200, .inl (fun _ => 0))), (q86, .inl (w.2.1 0, 8, .inl (fun _ => 0)))]) 0 cf11 rfl (by decide) rfl rfl rfl (Nat.le_of_ble_eq_true rfl) gl_11_61 rfl d_X11_init_121 rfl ?_
  refine pa_aload 0 d_X11_init_124 rfl rfl rfl ?_
  refine pa_lconst (v := 1) d_X11_init_125 (by decide) rfl ?_
  refine pa_put (j := 9) (ws' := [(b, .inr (11, [.ref q1, .ref q33, .ref q38, .ref q40, .ref q61, .ref q62, .ref q65, .ref q68, .ref q70, .long 1])), (q1, .inr (6, [.ref q2, .ref q8, .int 0, .int 0, .int 0, .ref q9, .ref q14, .int (-1)])), (q2, .inr (1, [.ref q3, .ref q4, .ref q5, .ref q6, .ref q7, .int 0, .int 0, .int 0])), (q3, .inl (w.2.1 0, 1728, .inl (fun _ => 0))), (q4, .inl (w.2.1 0, 200, .inl (fun _ => 0))), (q5, .inl (w.2.1 1, 60, .inr (.inl (fun _ => 0)))), (q6, .inl (w.2.1 0, 60, .inl (fun _ => 0))), (q7, .inl (w.2.1 3, 60, .inl (fun _ => 0))), (q8, .inl (w.2.1 0, 2, .inl (fun _ => 0))), (q9, .inr (9, [.ref q10, .ref q11, .ref q12, .ref q13, .int 0, .int 0, .int 0, .int 0, .int 0, .long 0])), (q10, .inl (w.2.1 2, 4000, .inl (fun _ => 0))), (q11, .inl (w.2.1 0, 4001, .inl (fun _ => 0))), (q12, .inl (w.2.1 0, 4001, .inl (fun _ => 0))), (q13, .inl (w.2.1 1, 4001, .inr (.inl (fun _ => 0)))), (q14, .inr (0, [.ref q15, .ref q19, .ref q27])), (q15, .inr (3, [.ref q16, .ref q17, .ref q18, .int 0])), (q16, .inl (w.2.1 1, 16, .inr (.inl (fun _ => 0)))), (q17, .inl (w.2.1 0, 16, .inl (fun _ => 0))), (q18, .inl (w.2.1 0, 80, .inl (fun _ => 0))), (q19, .inr (8, [.ref q20, .ref q21, .ref q22, .ref q23, .ref q24, .ref q25, .ref q26, .int 0])), (q20, .inl (w.2.1 0, 256, .inl f31)), (q21, .inl (w.2.1 0, 60, .inl (fun _ => 0))), (q22, .inl (w.2.1 0, 60, .inl (fun _ => 0))), (q23, .inl (w.2.1 0, 60, .inl (fun _ => 0))), (q24, .inl (w.2.1 0, 720, .inl (fun _ => 0))), (q25, .inl (w.2.1 0, 5760, .inl (fun _ => 0))), (q26, .inl (w.2.1 0, 480, .inl (fun _ => 0))), (q27, .inr (4, [.ref q28, .ref q29, .ref q30, .int 0, .int 0, .int 0, .int 0, .int 0])), (q28, .inl (w.2.1 0, 400, .inl f32)), (q29, .inl (w.2.1 0, 3200, .inl (fun _ => 0))), (q30, .inl (w.2.1 0, 8, .inl (fun _ => 0))), (q33, .inr (7, [.ref q34, .ref q35, .ref q36, .ref q37])), (q34, .inl (w.2.1 0, 8, .inl (fun _ => 0))), (q35, .inl (w.2.1 0, 8, .inl (fun _ => 0))), (q36, .inl (w.2.1 3, 8, .inl (fun _ => 0))), (q37, .inl (w.2.1 0, 12, .inl (fun _ => 0))), (q38, .inr (2, [.ref q39, .int 0, .int 0, .int 0, .int 0])), (q39, .inl (w.2.1 0, 50, .inl (fun _ => 0))), (q40, .inl (w.2.1 4, 4, .inr (.inr (.inr (.inr (va_up (va_up (va_up (va_up (fun _ => none) (0 : Int32).toNatClampNeg (some q41)) (1 : Int32).toNatClampNeg (some q46)) (2 : Int32).toNatClampNeg (some q51)) (3 : Int32).toNatClampNeg (some q56))))))), (q41, .inr (4, [.ref q42, .ref q43, .ref q44, .int 0, .int 0, .int 0, .int 0, .int 0])), (q42, .inl (w.2.1 0, 400, .inl f45)), (q43, .inl (w.2.1 0, 3200, .inl (fun _ => 0))), (q44, .inl (w.2.1 0, 8, .inl (fun _ => 0))), (q46, .inr (4, [.ref q47, .ref q48, .ref q49, .int 0, .int 0, .int 0, .int 0, .int 0])), (q47, .inl (w.2.1 0, 400, .inl f50)), (q48, .inl (w.2.1 0, 3200, .inl (fun _ => 0))), (q49, .inl (w.2.1 0, 8, .inl (fun _ => 0))), (q51, .inr (4, [.ref q52, .ref q53, .ref q54, .int 0, .int 0, .int 0, .int 0, .int 0])), (q52, .inl (w.2.1 0, 400, .inl f55)), (q53, .inl (w.2.1 0, 3200, .inl (fun _ => 0))), (q54, .inl (w.2.1 0, 8, .inl (fun _ => 0))), (q56, .inr (4, [.ref q57, .ref q58, .ref q59, .int 0, .int 0, .int 0, .int 0, .int 0])), (q57, .inl (w.2.1 0, 400, .inl f60)), (q58, .inl (w.2.1 0, 3200, .inl (fun _ => 0))), (q59, .inl (w.2.1 0, 8, .inl (fun _ => 0))), (q61, .inl (w.2.1 0, 400, .inl (fun _ => 0))), (q62, .inr (10, [.ref q63, .ref q64, .int 0])), (q63, .inl (w.2.1 0, 400, .inl (fun _ => 0))), (q64, .inl (w.2.1 0, 400, .inl (fun _ => 0))), (q65, .inr (10, [.ref q66, .ref q67, .int 0])), (q66, .inl (w.2.1 0, 400, .inl (fun _ => 0))), (q67, .inl (w.2.1 0, 400, .inl (fun _ => 0))), (q68, .inr (5, [.ref q69, .int 0])), (q69, .inl (w.2.1 2, 4000, .inl (fun _ => 0))), (q70, .inr (0, [.ref q71, .ref q75, .ref q83])), (q71, .inr (3, [.ref q72, .ref q73, .ref q74, .int 0])), (q72, .inl (w.2.1 1, 16, .inr (.inl (fun _ => 0)))), (q73, .inl (w.2.1 0, 16, .inl (fun _ => 0))), (q74, .inl (w.2.1 0, 80, .inl (fun _ => 0))), (q75, .inr (8, [.ref q76, .ref q77, .ref q78, .ref q79, .ref q80, .ref q81, .ref q82, .int 0])), (q76, .inl (w.2.1 0, 256, .inl f87)), (q77, .inl (w.2.1 0, 60, .inl (fun _ => 0))), (q78, .inl (w.2.1 0, 60, .inl (fun _ => 0))), (q79, .inl (w.2.1 0, 60, .inl (fun _ => 0))), (q80, .inl (w.2.1 0, 720, .inl (fun _ => 0))), (q81, .inl (w.2.1 0, 5760, .inl (fun _ => 0))), (q82, .inl (w.2.1 0, 480, .inl (fun _ => 0))), (q83, .inr (4, [.ref q84, .ref q85, .ref q86, .int 0, .int 0, .int 0, .int 0, .int 0])), (q84, .inl (w.2.1 0, 400, .inl f88)), (q85, .inl (w.2.1 0, 3200, .inl (fun _ => 0))), (q86, .inl (w.2.1 0, 8, .inl (fun _ => 0)))]) 0 cf11 rfl (by decide) rfl rfl rfl (Nat.le_of_ble_eq_true rfl) gl_11_65 rfl d_X11_init_126 rfl ?_
  exact pa_vret rfl ⟨q1, q2, q3, q4, q5, q6, q7, q8, q9, q10, q11, q12, q13, q14, q15, q16, q17, q18, q19, q20, q21, q22, q23, q24, q25, q26, q27, q28, q29, q30, q33, q34, q35, q36, q37, q38, q39, q40, q41, q42, q43, q44, q46, q47, q48, q49, q51, q52, q53, q54, q56, q57, q58, q59, q61, q62, q63, q64, q65, q66, q67, q68, q69, q70, q71, q72, q73, q74, q75, q76, q77, q78, q79, q80, q81, q82, q83, q84, q85, q86, f31, f32, f45, f50, f55, f60, f87, f88, rfl, hf31, hf32, hf45, hf50, hf55, hf60, hf87, hf88⟩ (Nat.le_of_ble_eq_true rfl) (Nat.le_of_ble_eq_true rfl) d_X11_init_129
