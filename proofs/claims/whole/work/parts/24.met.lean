def f_X6_refuseToken (σ : St) : Option (St) :=
  Option.bind (
    if (σ.1 (9) 7) = 0 then (
      some (1 : Int32))
    else (
      some (2 : Int32))) fun t1 =>
  Option.bind (some (seti σ (1) 4 t1)) fun s3 =>
  Option.bind (some (seti s3 (1) 7 (s3.1 (9) 8))) fun s4 =>
  some s4
set_option maxRecDepth 20000 in
theorem k_X6_refuseToken (l : Launch) (w : Wo) (σ : St) : K l w shC m_X6_refuseToken 1 [.ref (1)] σ (f_X6_refuseToken σ) (rV) := by
  refine k_of (L := [some (.ref (1))]) (plainFor_of_name (by decide +kernel)) 0 rfl (Nat.le_of_ble_eq_true rfl) ?_
  unfold f_X6_refuseToken
  refine gg_st (go_aload_n 0 d_X6_refuseToken_0 rfl rfl rfl) ?_
  refine gg_st (go_aload_n 0 d_X6_refuseToken_1 rfl rfl rfl) ?_
  refine gg_st (go_getR (j := 5) cf6 sC_1 rfl (by decide) fl_X6_25 d_X6_refuseToken_2 rfl) ?_
  refine gg_st (go_getI (j := 7) cf9 sC_9 rfl (by decide) fl_X6_53 d_X6_refuseToken_5 rfl) ?_
  refine gg_bind 16 (fun (t1 : Int32) => [some (.ref (1))]) (fun (t1 : Int32) => [.int t1, .ref (1)]) (fun (t1 : Int32) => σ) ?_ (fun t1 => ?_)
  · refine gg_br (br_if_ne (tgt := 15) (pc' := 11) d_X6_refuseToken_8 (by decide) rfl) (fun h2 => ?_) (fun h2 => ?_)
    · refine gg_st (go_iconst d_X6_refuseToken_11 ci_1 rfl) ?_
      refine gg_st (go_goto (pc' := 16) d_X6_refuseToken_12 (by decide)) ?_
      exact gg_end rfl
    · refine gg_st (go_iconst d_X6_refuseToken_15 ci_2 rfl) ?_
      exact gg_end rfl
  · refine gg_st (go_putI (j := 4) cf6 sC_1 rfl (by decide) rfl rfl fl_X6_47 d_X6_refuseToken_16 rfl) ?_
    refine gg_som (fun s3 => ?_)
    refine gg_st (go_aload_n 0 d_X6_refuseToken_19 rfl rfl rfl) ?_
    refine gg_st (go_aload_n 0 d_X6_refuseToken_20 rfl rfl rfl) ?_
    refine gg_st (go_getR (j := 5) cf6 sC_1 rfl (by decide) fl_X6_25 d_X6_refuseToken_21 rfl) ?_
    refine gg_st (go_getI (j := 8) cf9 sC_9 rfl (by decide) fl_X6_85 d_X6_refuseToken_24 rfl) ?_
    refine gg_st (go_putI (j := 7) cf6 sC_1 rfl (by decide) rfl rfl fl_X6_36 d_X6_refuseToken_27 rfl) ?_
    refine gg_som (fun s4 => ?_)
    exact gg_vret rfl d_X6_refuseToken_30 rfl
def f_X9_advance (σ : St) : Option (St) :=
  Option.bind (some (f_J9_min_7cf53 ((σ.1 (9) 5) + (1 : Int32)) ((σ.1 (9) 4) - (1 : Int32)))) fun x1 =>
  if (0 ≤ x1) ∧ (x1 ≤ (4000 : Int32)) then (
    Option.bind (some (seti σ (9) 5 x1)) fun s3 =>
    if inb x1 4001 then (
      Option.bind (some (seti s3 (9) 7 (s3.1 (11) (ix x1)))) fun s5 =>
      if inb x1 4001 then (
        Option.bind (some (seti s5 (9) 8 (s5.1 (12) (ix x1)))) fun s7 =>
        if inb x1 4001 then (
          Option.bind (some (setl s7 (9) 9 (s7.2 (13) (ix x1)))) fun s9 =>
          some s9)
        else none)
      else none)
    else none)
  else (
    some σ)
set_option maxRecDepth 20000 in
theorem k_X9_advance (l : Launch) (w : Wo) (σ : St) : K l w shC m_X9_advance 2 [.ref (9)] σ (f_X9_advance σ) (rV) := by
  refine k_of (L := [some (.ref (9)), none]) (plainFor_of_name (by decide +kernel)) 1 rfl (Nat.le_of_ble_eq_true rfl) ?_
  unfold f_X9_advance
  refine gg_st (go_aload_n 0 d_X9_advance_0 rfl rfl rfl) ?_
  refine gg_st (go_getI (j := 5) cf9 sC_9 rfl (by decide) fl_X9_51 d_X9_advance_1 rfl) ?_
  refine gg_st (go_iconst d_X9_advance_4 ci_1 rfl) ?_
  refine gg_st (go_iadd d_X9_advance_5 rfl) ?_
  refine gg_st (go_aload_n 0 d_X9_advance_6 rfl rfl rfl) ?_
  refine gg_st (go_getI (j := 4) cf9 sC_9 rfl (by decide) fl_X9_34 d_X9_advance_7 rfl) ?_
  refine gg_st (go_iconst d_X9_advance_10 ci_1 rfl) ?_
  refine gg_st (go_isub d_X9_advance_11 rfl) ?_
  refine gs_I (k_J9_min_7cf53 l w ((σ.1 (9) 5) + (1 : Int32)) ((σ.1 (9) 4) - (1 : Int32)) σ) cs_X9_77 (Nat.le_of_ble_eq_true rfl) rfl rfl (Nat.le_of_ble_eq_true rfl) d_X9_advance_12 rfl (fun x1 => ?_)
  refine gg_st (go_istore_n 1 d_X9_advance_15 rfl (by decide) (L' := [some (.ref (9)), some (.int x1)]) rfl rfl) ?_
  refine gg_st (go_iload_n 1 d_X9_advance_16 rfl rfl rfl) ?_
  refine gg_two (c := (0 ≤ x1) ∧ (x1 ≤ (4000 : Int32))) (pA := 27) (pB := 62) (LL := [some (.ref (9)), some (.int x1)]) (ss := []) ?_ ?_ (fun hA10 hB11 => ?_)
  · refine gg_st (go_aload_n 0 d_X9_advance_27 rfl rfl rfl) ?_
    refine gg_st (go_iload_n 1 d_X9_advance_28 rfl rfl rfl) ?_
    refine gg_st (go_putI (j := 5) cf9 sC_9 rfl (by decide) rfl rfl fl_X9_51 d_X9_advance_29 rfl) ?_
    refine gg_som (fun s3 => ?_)
    refine gg_st (go_aload_n 0 d_X9_advance_32 rfl rfl rfl) ?_
    refine gg_st (go_aload_n 0 d_X9_advance_33 rfl rfl rfl) ?_
    refine gg_st (go_getR (j := 1) cf9 sC_9 rfl (by decide) fl_X9_15 d_X9_advance_34 rfl) ?_
    refine gg_st (go_iload_n 1 d_X9_advance_37 rfl rfl rfl) ?_
    refine gg_gd (fun h4 => ?_)
    refine gg_st (go_iald sC_11 h4 d_X9_advance_38 rfl) ?_
    refine gg_st (go_putI (j := 7) cf9 sC_9 rfl (by decide) rfl rfl fl_X9_80 d_X9_advance_39 rfl) ?_
    refine gg_som (fun s5 => ?_)
    refine gg_st (go_aload_n 0 d_X9_advance_42 rfl rfl rfl) ?_
    refine gg_st (go_aload_n 0 d_X9_advance_43 rfl rfl rfl) ?_
    refine gg_st (go_getR (j := 2) cf9 sC_9 rfl (by decide) fl_X9_19 d_X9_advance_44 rfl) ?_
    refine gg_st (go_iload_n 1 d_X9_advance_47 rfl rfl rfl) ?_
    refine gg_gd (fun h6 => ?_)
    refine gg_st (go_iald sC_12 h6 d_X9_advance_48 rfl) ?_
    refine gg_st (go_putI (j := 8) cf9 sC_9 rfl (by decide) rfl rfl fl_X9_83 d_X9_advance_49 rfl) ?_
    refine gg_som (fun s7 => ?_)
    refine gg_st (go_aload_n 0 d_X9_advance_52 rfl rfl rfl) ?_
    refine gg_st (go_aload_n 0 d_X9_advance_53 rfl rfl rfl) ?_
    refine gg_st (go_getR (j := 3) cf9 sC_9 rfl (by decide) fl_X9_22 d_X9_advance_54 rfl) ?_
    refine gg_st (go_iload_n 1 d_X9_advance_57 rfl rfl rfl) ?_
    refine gg_gd (fun h8 => ?_)
    refine gg_st (go_lald sC_13 h8 d_X9_advance_58 rfl) ?_
    refine gg_st (go_putL (j := 9) cf9 sC_9 rfl (by decide) rfl rfl fl_X9_86 d_X9_advance_59 rfl) ?_
    refine gg_som (fun s9 => ?_)
    exact gg_vret rfl d_X9_advance_62 rfl
  · exact gg_vret rfl d_X9_advance_62 rfl
  refine gg_brs (br_if_lt (tgt := 62) (pc' := 20) d_X9_advance_17 (by decide) rfl) (fun h12 => ?_) (fun h12 => ?_)
  · refine gg_st (go_iload_n 1 d_X9_advance_20 rfl rfl rfl) ?_
    refine gg_st (go_sipush d_X9_advance_21 cs_4000 rfl) ?_
    refine gg_brs (br_icmp_gt (tgt := 62) (pc' := 27) d_X9_advance_24 (by decide) rfl) (fun h13 => ?_) (fun h13 => ?_)
    · exact gg_eq (if_pos ⟨h12, h13⟩) hA10
    · exact gg_eq (if_neg (fun z => h13 z.2)) hB11
  · exact gg_eq (if_neg (fun z => h12 z.1)) hB11
def f_X6_pass (p1 : Int32) (σ : St) : Option (St) :=
  if (σ.1 (9) 7) = p1 then (
    Option.bind (f_X9_advance σ) fun s2 =>
    some s2)
  else (
    Option.bind (f_X6_refuseToken σ) fun s3 =>
    some s3)
set_option maxRecDepth 20000 in
theorem k_X6_pass (l : Launch) (w : Wo) (p1 : Int32) (σ : St) : K l w shC m_X6_pass 3 [.ref (1), .int p1] σ (f_X6_pass p1 σ) (rV) := by
  refine k_of (L := [some (.ref (1)), some (.int p1)]) (plainFor_of_name (by decide +kernel)) 0 rfl (Nat.le_of_ble_eq_true rfl) ?_
  unfold f_X6_pass
  refine gg_st (go_aload_n 0 d_X6_pass_0 rfl rfl rfl) ?_
  refine gg_st (go_getR (j := 5) cf6 sC_1 rfl (by decide) fl_X6_25 d_X6_pass_1 rfl) ?_
  refine gg_st (go_getI (j := 7) cf9 sC_9 rfl (by decide) fl_X6_53 d_X6_pass_4 rfl) ?_
  refine gg_st (go_iload_n 1 d_X6_pass_7 rfl rfl rfl) ?_
  refine gg_br (br_icmp_ne (tgt := 21) (pc' := 11) d_X6_pass_8 (by decide) rfl) (fun h1 => ?_) (fun h1 => ?_)
  · refine gg_st (go_aload_n 0 d_X6_pass_11 rfl rfl rfl) ?_
    refine gg_st (go_getR (j := 5) cf6 sC_1 rfl (by decide) fl_X6_25 d_X6_pass_12 rfl) ?_
    refine gv_V (k_X9_advance l w  σ) cv_X6_88 sC_9 (Nat.le_of_ble_eq_true rfl) rfl rfl (Nat.le_of_ble_eq_true rfl) d_X6_pass_15 rfl (fun s2 => ?_)
    refine gg_st (go_goto (pc' := 25) d_X6_pass_18 (by decide)) ?_
    exact gg_vret rfl d_X6_pass_25 rfl
  · refine gg_st (go_aload_n 0 d_X6_pass_21 rfl rfl rfl) ?_
    refine gv_V (k_X6_refuseToken l w  σ) cv_X6_75 sC_1 (Nat.le_of_ble_eq_true rfl) rfl rfl (Nat.le_of_ble_eq_true rfl) d_X6_pass_22 rfl (fun s3 => ?_)
    exact gg_vret rfl d_X6_pass_25 rfl
def f_X3_addPort (p1 : Int32) (σ : St) : Option (St) :=
  Option.bind (some ((σ.1 (15) 3) - (1 : Int32))) fun x1 =>
  Option.bind (some (f_X3_has (15) x1 σ)) fun x2 =>
  if x2 = 0 then (
    some σ)
  else (
    if inb x1 16 then (
      if (σ.1 (17) (ix x1)) < (5 : Int32) then (
        if inb x1 16 then (
          if inb ((x1 * (5 : Int32)) + (σ.1 (17) (ix x1))) 80 then (
            Option.bind (some (seti σ (18) (ix ((x1 * (5 : Int32)) + (σ.1 (17) (ix x1)))) p1)) fun s10 =>
            if inb x1 16 then (
              if inb x1 16 then (
                Option.bind (some (seti s10 (17) (ix x1) ((s10.1 (17) (ix x1)) + (1 : Int32)))) fun s13 =>
                some s13)
              else none)
            else none)
          else none)
        else none)
      else (
        some σ))
    else none)
set_option maxRecDepth 20000 in
theorem k_X3_addPort (l : Launch) (w : Wo) (p1 : Int32) (σ : St) : K l w shC m_X3_addPort 2 [.ref (15), .int p1] σ (f_X3_addPort p1 σ) (rV) := by
  refine k_of (L := [some (.ref (15)), some (.int p1), none]) (plainFor_of_name (by decide +kernel)) 1 rfl (Nat.le_of_ble_eq_true rfl) ?_
  unfold f_X3_addPort
  refine gg_st (go_aload_n 0 d_X3_addPort_0 rfl rfl rfl) ?_
  refine gg_st (go_getI (j := 3) cf3 sC_15 rfl (by decide) fl_X3_22 d_X3_addPort_1 rfl) ?_
  refine gg_st (go_iconst d_X3_addPort_4 ci_1 rfl) ?_
  refine gg_st (go_isub d_X3_addPort_5 rfl) ?_
  refine gg_nm (fun _ => [some (.ref (15)), some (.int p1), none]) (fun (x1 : Int32) => [.int x1]) (fun x1 => ?_)
  refine gg_st (go_istore_n 2 d_X3_addPort_6 rfl (by decide) (L' := [some (.ref (15)), some (.int p1), some (.int x1)]) rfl rfl) ?_
  refine gg_st (go_aload_n 0 d_X3_addPort_7 rfl rfl rfl) ?_
  refine gg_st (go_iload_n 2 d_X3_addPort_8 rfl rfl rfl) ?_
  refine gv_I (k_X3_has l w (show 15 ∈ st15_65 by decide) x1 σ) cv_X3_30 sC_15 (Nat.le_of_ble_eq_true rfl) rfl rfl (Nat.le_of_ble_eq_true rfl) d_X3_addPort_9 rfl (fun x2 => ?_)
  refine gg_br (br_if_eq (tgt := 51) (pc' := 15) d_X3_addPort_12 (by decide) rfl) (fun h4 => ?_) (fun h4 => ?_)
  · exact gg_vret rfl d_X3_addPort_51 rfl
  · refine gg_st (go_aload_n 0 d_X3_addPort_15 rfl rfl rfl) ?_
    refine gg_st (go_getR (j := 1) cf3 sC_15 rfl (by decide) fl_X3_15 d_X3_addPort_16 rfl) ?_
    refine gg_st (go_iload_n 2 d_X3_addPort_19 rfl rfl rfl) ?_
    refine gg_gd (fun h5 => ?_)
    refine gg_st (go_iald sC_17 h5 d_X3_addPort_20 rfl) ?_
    refine gg_st (go_iconst d_X3_addPort_21 ci_5 rfl) ?_
    refine gg_br (br_icmp_ge (tgt := 51) (pc' := 25) d_X3_addPort_22 (by decide) rfl) (fun h7 => ?_) (fun h7 => ?_)
    · refine gg_st (go_aload_n 0 d_X3_addPort_25 rfl rfl rfl) ?_
      refine gg_st (go_getR (j := 2) cf3 sC_15 rfl (by decide) fl_X3_19 d_X3_addPort_26 rfl) ?_
      refine gg_st (go_iload_n 2 d_X3_addPort_29 rfl rfl rfl) ?_
      refine gg_st (go_iconst d_X3_addPort_30 ci_5 rfl) ?_
      refine gg_st (go_imul d_X3_addPort_31 rfl) ?_
      refine gg_st (go_aload_n 0 d_X3_addPort_32 rfl rfl rfl) ?_
      refine gg_st (go_getR (j := 1) cf3 sC_15 rfl (by decide) fl_X3_15 d_X3_addPort_33 rfl) ?_
      refine gg_st (go_iload_n 2 d_X3_addPort_36 rfl rfl rfl) ?_
      refine gg_gd (fun h8 => ?_)
      refine gg_st (go_iald sC_17 h8 d_X3_addPort_37 rfl) ?_
      refine gg_st (go_iadd d_X3_addPort_38 rfl) ?_
      refine gg_st (go_iload_n 1 d_X3_addPort_39 rfl rfl rfl) ?_
      refine gg_gd (fun h9 => ?_)
      refine gg_st (go_iast sC_18 h9 d_X3_addPort_40 rfl) ?_
      refine gg_som (fun s10 => ?_)
      refine gg_st (go_aload_n 0 d_X3_addPort_41 rfl rfl rfl) ?_
      refine gg_st (go_getR (j := 1) cf3 sC_15 rfl (by decide) fl_X3_15 d_X3_addPort_42 rfl) ?_
      refine gg_st (go_iload_n 2 d_X3_addPort_45 rfl rfl rfl) ?_
      refine gg_st (go_dup2 d_X3_addPort_46 rfl rfl rfl) ?_
      refine gg_gd (fun h11 => ?_)
      refine gg_st (go_iald sC_17 h11 d_X3_addPort_47 rfl) ?_
      refine gg_st (go_iconst d_X3_addPort_48 ci_1 rfl) ?_
      refine gg_st (go_iadd d_X3_addPort_49 rfl) ?_
      refine gg_gd (fun h12 => ?_)
      refine gg_st (go_iast sC_17 h12 d_X3_addPort_50 rfl) ?_
      refine gg_som (fun s13 => ?_)
      exact gg_vret rfl d_X3_addPort_51 rfl
    · exact gg_vret rfl d_X3_addPort_51 rfl
def f_X6_refuse (p1 : Int32) (σ : St) : Option (St) :=
  Option.bind (some (seti σ (1) 4 p1)) fun s1 =>
  Option.bind (some (seti s1 (1) 7 (s1.1 (9) 8))) fun s2 =>
  some s2
set_option maxRecDepth 20000 in
theorem k_X6_refuse (l : Launch) (w : Wo) (p1 : Int32) (σ : St) : K l w shC m_X6_refuse 1 [.ref (1), .int p1] σ (f_X6_refuse p1 σ) (rV) := by
  refine k_of (L := [some (.ref (1)), some (.int p1)]) (plainFor_of_name (by decide +kernel)) 0 rfl (Nat.le_of_ble_eq_true rfl) ?_
  unfold f_X6_refuse
  refine gg_st (go_aload_n 0 d_X6_refuse_0 rfl rfl rfl) ?_
  refine gg_st (go_iload_n 1 d_X6_refuse_1 rfl rfl rfl) ?_
  refine gg_st (go_putI (j := 4) cf6 sC_1 rfl (by decide) rfl rfl fl_X6_47 d_X6_refuse_2 rfl) ?_
  refine gg_som (fun s1 => ?_)
  refine gg_st (go_aload_n 0 d_X6_refuse_5 rfl rfl rfl) ?_
  refine gg_st (go_aload_n 0 d_X6_refuse_6 rfl rfl rfl) ?_
  refine gg_st (go_getR (j := 5) cf6 sC_1 rfl (by decide) fl_X6_25 d_X6_refuse_7 rfl) ?_
  refine gg_st (go_getI (j := 8) cf9 sC_9 rfl (by decide) fl_X6_85 d_X6_refuse_10 rfl) ?_
  refine gg_st (go_putI (j := 7) cf6 sC_1 rfl (by decide) rfl rfl fl_X6_36 d_X6_refuse_13 rfl) ?_
  refine gg_som (fun s2 => ?_)
  exact gg_vret rfl d_X6_refuse_16 rfl
def f_X6_readPort (p1 : Int32) (σ : St) : Option (St) :=
  Option.bind (some ((σ.2 (9) 9) - (97 : Int64))) fun x1 =>
  if ((σ.1 (9) 7) = (2 : Int32)) ∧ ((0 ≤ (lg_cmp x1 (0 : Int64))) ∧ (¬ (0 < (lg_cmp x1 (25 : Int64))))) then (
    if (5 : Int32) ≤ p1 then (
      Option.bind (f_X6_refuse (4 : Int32) σ) fun s3 =>
      some s3)
    else (
      Option.bind (f_X9_advance σ) fun s4 =>
      if ((s4.1 (9) 7) = (43 : Int32)) ∨ ((s4.1 (9) 7) = (45 : Int32)) then (
        Option.bind (
          if (s4.1 (9) 7) = (43 : Int32) then (
            some (x1.toInt32))
          else (
            some ((x1.toInt32) ^^^ (-1 : Int32)))) fun t5 =>
        Option.bind (f_X3_addPort t5 s4) fun s7 =>
        Option.bind (f_X9_advance s7) fun s8 =>
        some s8)
      else (
        Option.bind (f_X6_refuseToken s4) fun s9 =>
        some s9)))
  else (
    Option.bind (f_X6_refuseToken σ) fun s14 =>
    some s14)
set_option maxRecDepth 20000 in
theorem k_X6_readPort (l : Launch) (w : Wo) (p1 : Int32) (σ : St) : K l w shC m_X6_readPort 3 [.ref (1), .int p1] σ (f_X6_readPort p1 σ) (rV) := by
  refine k_of (L := [some (.ref (1)), some (.int p1), none, none]) (plainFor_of_name (by decide +kernel)) 2 rfl (Nat.le_of_ble_eq_true rfl) ?_
  unfold f_X6_readPort
  refine gg_st (go_aload_n 0 d_X6_readPort_0 rfl rfl rfl) ?_
  refine gg_st (go_getR (j := 5) cf6 sC_1 rfl (by decide) fl_X6_25 d_X6_readPort_1 rfl) ?_
  refine gg_st (go_getL (j := 9) cf9 sC_9 rfl (by decide) fl_X6_81 d_X6_readPort_4 rfl) ?_
  refine gg_st (go_ldc2 ll_X6_122 d_X6_readPort_7 rfl) ?_
  refine gg_st (go_lsub d_X6_readPort_10 rfl) ?_
  refine gg_nm (fun _ => [some (.ref (1)), some (.int p1), none, none]) (fun (x1 : Int64) => [.long x1]) (fun x1 => ?_)
  refine gg_st (go_lstore_n 2 d_X6_readPort_11 rfl (by decide) (L' := [some (.ref (1)), some (.int p1), some (.long x1), none]) rfl rfl) ?_
  refine gg_st (go_aload_n 0 d_X6_readPort_12 rfl rfl rfl) ?_
  refine gg_st (go_getR (j := 5) cf6 sC_1 rfl (by decide) fl_X6_25 d_X6_readPort_13 rfl) ?_
  refine gg_st (go_getI (j := 7) cf9 sC_9 rfl (by decide) fl_X6_53 d_X6_readPort_16 rfl) ?_
  refine gg_st (go_iconst d_X6_readPort_19 ci_2 rfl) ?_
  refine gg_two (c := ((σ.1 (9) 7) = (2 : Int32)) ∧ ((0 ≤ (lg_cmp x1 (0 : Int64))) ∧ (¬ (0 < (lg_cmp x1 (25 : Int64)))))) (pA := 44) (pB := 37) (LL := [some (.ref (1)), some (.int p1), some (.long x1), none]) (ss := []) ?_ ?_ (fun hA15 hB16 => ?_)
  · refine gg_st (go_iload_n 1 d_X6_readPort_44 rfl rfl rfl) ?_
    refine gg_st (go_iconst d_X6_readPort_45 ci_5 rfl) ?_
    refine gg_br (br_icmp_lt (tgt := 57) (pc' := 49) d_X6_readPort_46 (by decide) rfl) (fun h2 => ?_) (fun h2 => ?_)
    · refine gg_st (go_aload_n 0 d_X6_readPort_49 rfl rfl rfl) ?_
      refine gg_st (go_iconst d_X6_readPort_50 ci_4 rfl) ?_
      refine gv_V (k_X6_refuse l w (4 : Int32) σ) cv_X6_101 sC_1 (Nat.le_of_ble_eq_true rfl) rfl rfl (Nat.le_of_ble_eq_true rfl) d_X6_readPort_51 rfl (fun s3 => ?_)
      refine gg_st (go_goto (pc' := 133) d_X6_readPort_54 (by decide)) ?_
      exact gg_vret rfl d_X6_readPort_133 rfl
    · refine gg_st (go_aload_n 0 d_X6_readPort_57 rfl rfl rfl) ?_
      refine gg_st (go_getR (j := 5) cf6 sC_1 rfl (by decide) fl_X6_25 d_X6_readPort_58 rfl) ?_
      refine gv_V (k_X9_advance l w  σ) cv_X6_88 sC_9 (Nat.le_of_ble_eq_true rfl) rfl rfl (Nat.le_of_ble_eq_true rfl) d_X6_readPort_61 rfl (fun s4 => ?_)
      refine gg_st (go_aload_n 0 d_X6_readPort_64 rfl rfl rfl) ?_
      refine gg_st (go_getR (j := 5) cf6 sC_1 rfl (by decide) fl_X6_25 d_X6_readPort_65 rfl) ?_
      refine gg_st (go_getI (j := 7) cf9 sC_9 rfl (by decide) fl_X6_53 d_X6_readPort_68 rfl) ?_
      refine gg_st (go_bipush d_X6_readPort_71 cb_43 rfl) ?_
      refine gg_two (c := ((s4.1 (9) 7) = (43 : Int32)) ∨ ((s4.1 (9) 7) = (45 : Int32))) (pA := 88) (pB := 129) (LL := [some (.ref (1)), some (.int p1), some (.long x1), none]) (ss := []) ?_ ?_ (fun hA10 hB11 => ?_)
      · refine gg_st (go_aload_n 0 d_X6_readPort_88 rfl rfl rfl) ?_
        refine gg_st (go_getR (j := 6) cf6 sC_1 rfl (by decide) fl_X6_32 d_X6_readPort_89 rfl) ?_
        refine gg_st (go_getR (j := 0) cf0 sC_14 rfl (by decide) fl_X6_91 d_X6_readPort_92 rfl) ?_
        refine gg_st (go_aload_n 0 d_X6_readPort_95 rfl rfl rfl) ?_
        refine gg_st (go_getR (j := 5) cf6 sC_1 rfl (by decide) fl_X6_25 d_X6_readPort_96 rfl) ?_
        refine gg_st (go_getI (j := 7) cf9 sC_9 rfl (by decide) fl_X6_53 d_X6_readPort_99 rfl) ?_
        refine gg_st (go_bipush d_X6_readPort_102 cb_43 rfl) ?_
        refine gg_bind 116 (fun (t5 : Int32) => [some (.ref (1)), none, none, none]) (fun (t5 : Int32) => [.int t5, .ref (15)]) (fun (t5 : Int32) => s4) ?_ (fun t5 => ?_)
        · refine gg_br (br_icmp_ne (tgt := 112) (pc' := 107) d_X6_readPort_104 (by decide) rfl) (fun h6 => ?_) (fun h6 => ?_)
          · refine gg_st (go_lload_n 2 d_X6_readPort_107 rfl rfl rfl) ?_
            refine gg_st (go_l2i d_X6_readPort_108 rfl) ?_
            refine gg_st (go_goto (pc' := 116) d_X6_readPort_109 (by decide)) ?_
            refine gg_st (go_fg [some (.ref (1)), none, none, none] ⟨rfl, trivial⟩) ?_
            exact gg_end rfl
          · refine gg_st (go_lload_n 2 d_X6_readPort_112 rfl rfl rfl) ?_
            refine gg_st (go_l2i d_X6_readPort_113 rfl) ?_
            refine gg_st (go_iconst d_X6_readPort_114 ci_m1 rfl) ?_
            refine gg_st (go_ixor d_X6_readPort_115 rfl) ?_
            refine gg_st (go_fg [some (.ref (1)), none, none, none] ⟨rfl, trivial⟩) ?_
            exact gg_end rfl
        · refine gv_V (k_X3_addPort l w t5 s4) cv_X6_126 sC_15 (Nat.le_of_ble_eq_true rfl) rfl rfl (Nat.le_of_ble_eq_true rfl) d_X6_readPort_116 rfl (fun s7 => ?_)
          refine gg_st (go_aload_n 0 d_X6_readPort_119 rfl rfl rfl) ?_
          refine gg_st (go_getR (j := 5) cf6 sC_1 rfl (by decide) fl_X6_25 d_X6_readPort_120 rfl) ?_
          refine gv_V (k_X9_advance l w  s7) cv_X6_88 sC_9 (Nat.le_of_ble_eq_true rfl) rfl rfl (Nat.le_of_ble_eq_true rfl) d_X6_readPort_123 rfl (fun s8 => ?_)
          refine gg_st (go_goto (pc' := 133) d_X6_readPort_126 (by decide)) ?_
          exact gg_vret rfl d_X6_readPort_133 rfl
      · refine gg_st (go_aload_n 0 d_X6_readPort_129 rfl rfl rfl) ?_
        refine gv_V (k_X6_refuseToken l w  s4) cv_X6_75 sC_1 (Nat.le_of_ble_eq_true rfl) rfl rfl (Nat.le_of_ble_eq_true rfl) d_X6_readPort_130 rfl (fun s9 => ?_)
        exact gg_vret rfl d_X6_readPort_133 rfl
      refine gg_brs (br_icmp_eq (tgt := 88) (pc' := 76) d_X6_readPort_73 (by decide) rfl) (fun h12 => ?_) (fun h12 => ?_)
      · exact gg_eq (if_pos (Or.inl h12)) hA10
      · refine gg_st (go_aload_n 0 d_X6_readPort_76 rfl rfl rfl) ?_
        refine gg_st (go_getR (j := 5) cf6 sC_1 rfl (by decide) fl_X6_25 d_X6_readPort_77 rfl) ?_
        refine gg_st (go_getI (j := 7) cf9 sC_9 rfl (by decide) fl_X6_53 d_X6_readPort_80 rfl) ?_
        refine gg_st (go_bipush d_X6_readPort_83 cb_45 rfl) ?_
        refine gg_brs (br_icmp_ne (tgt := 129) (pc' := 88) d_X6_readPort_85 (by decide) rfl) (fun h13 => ?_) (fun h13 => ?_)
        · exact gg_eq (if_pos (Or.inr h13)) hA10
        · exact gg_eq (if_neg (fun z => z.elim h12 h13)) hB11
  · refine gg_st (go_aload_n 0 d_X6_readPort_37 rfl rfl rfl) ?_
    refine gv_V (k_X6_refuseToken l w  σ) cv_X6_75 sC_1 (Nat.le_of_ble_eq_true rfl) rfl rfl (Nat.le_of_ble_eq_true rfl) d_X6_readPort_38 rfl (fun s14 => ?_)
    refine gg_st (go_goto (pc' := 133) d_X6_readPort_41 (by decide)) ?_
    exact gg_vret rfl d_X6_readPort_133 rfl
  refine gg_brs (br_icmp_ne (tgt := 37) (pc' := 23) d_X6_readPort_20 (by decide) rfl) (fun h17 => ?_) (fun h17 => ?_)
  · refine gg_st (go_lload_n 2 d_X6_readPort_23 rfl rfl rfl) ?_
    refine gg_st (go_lconst d_X6_readPort_24 (v := (0 : Int64)) (by decide) rfl) ?_
    refine gg_st (go_lcmp d_X6_readPort_25 rfl) ?_
    refine gg_brs (br_if_lt (tgt := 37) (pc' := 29) d_X6_readPort_26 (by decide) rfl) (fun h18 => ?_) (fun h18 => ?_)
    · refine gg_st (go_lload_n 2 d_X6_readPort_29 rfl rfl rfl) ?_
      refine gg_st (go_ldc2 ll_X6_124 d_X6_readPort_30 rfl) ?_
      refine gg_st (go_lcmp d_X6_readPort_33 rfl) ?_
      refine gg_brs (br_if_le (tgt := 44) (pc' := 37) d_X6_readPort_34 (by decide) rfl) (fun h19 => ?_) (fun h19 => ?_)
      · exact gg_eq (if_neg (fun z => (fun z => (fun z => z h19) z.2) z.2)) hB16
      · exact gg_eq (if_pos ⟨h17, ⟨h18, h19⟩⟩) hA15
    · exact gg_eq (if_neg (fun z => (fun z => h18 z.1) z.2)) hB16
  · exact gg_eq (if_neg (fun z => h17 z.1)) hB16
def f_X6_readPorts_L26 (F : Nat) : Nat → Int32 → St → Option (St)
  | 0, _, _ => none
  | n + 1, v3, g =>
    Option.bind (f_X9_advance g) fun s4 =>
    Option.bind (f_X6_readPort v3 s4) fun s5 =>
    Option.bind (some (v3 + (1 : Int32))) fun x6 =>
    if ((s5.1 (1) 4) = 0) ∧ (((s5.1 (9) 7) = (44 : Int32)) ∧ (¬ ((5 : Int32) < x6))) then (
      f_X6_readPorts_L26 F n x6 s5)
    else (
      some s5)
def f_X6_readPorts (F : Nat) (σ : St) : Option (St) :=
  Option.bind (f_X6_readPort (0 : Int32) σ) fun s1 =>
  Option.bind (
    if ((s1.1 (1) 4) = 0) ∧ ((s1.1 (9) 7) = (40 : Int32)) then (
      Option.bind (f_X6_readPorts_L26 F F (1 : Int32) s1) fun t12 =>
      if (t12.1 (1) 4) = 0 then (
        Option.bind (f_X6_pass (41 : Int32) t12) fun s14 =>
        some s14)
      else (
        some t12))
    else (
      some s1)) fun t2 =>
  if (t2.1 (1) 4) = 0 then (
    Option.bind (f_X6_pass (59 : Int32) t2) fun s20 =>
    some s20)
  else (
    some t2)
set_option maxRecDepth 20000 in
theorem g_f_X6_readPorts_L26 (l : Launch) (w : Wo) (F : Nat) : ∀ (n : Nat) (v3 : Int32) (g : St), GG l w shC m_X6_readPorts 4 26 [some (.ref (1)), some (.int v3)] [] g (f_X6_readPorts_L26 F n v3 g) (fun (t : St) => .inl (65, [some (.ref (1)), none], [], t)) := by
  intro n
  induction n with
  | zero =>
    intro v3 g
    exact gg_none
  | succ n ih =>
    intro v3 g
    rw [f_X6_readPorts_L26]
    refine gg_st (go_aload_n 0 d_X6_readPorts_26 rfl rfl rfl) ?_
    refine gg_st (go_getR (j := 5) cf6 sC_1 rfl (by decide) fl_X6_25 d_X6_readPorts_27 rfl) ?_
    refine gv_V (k_X9_advance l w  g) cv_X6_88 sC_9 (Nat.le_of_ble_eq_true rfl) rfl rfl (Nat.le_of_ble_eq_true rfl) d_X6_readPorts_30 rfl (fun s4 => ?_)
    refine gg_st (go_aload_n 0 d_X6_readPorts_33 rfl rfl rfl) ?_
    refine gg_st (go_iload_n 1 d_X6_readPorts_34 rfl rfl rfl) ?_
    refine gv_V (k_X6_readPort l w v3 s4) cv_X6_116 sC_1 (Nat.le_of_ble_eq_true rfl) rfl rfl (Nat.le_of_ble_eq_true rfl) d_X6_readPorts_35 rfl (fun s5 => ?_)
    refine gg_st (go_iinc 1 d_X6_readPorts_38 rfl (v := v3 + (1 : Int32)) (by rw [ci_1]) (by decide) (L' := [some (.ref (1)), some (.int (v3 + (1 : Int32)))]) rfl rfl) ?_
    refine gg_nm (fun (x6 : Int32) => [some (.ref (1)), some (.int x6)]) (fun _ => []) (fun x6 => ?_)
    refine gg_st (go_aload_n 0 d_X6_readPorts_41 rfl rfl rfl) ?_
    refine gg_st (go_getI (j := 4) cf6 sC_1 rfl (by decide) fl_X6_47 d_X6_readPorts_42 rfl) ?_
    refine gg_two (c := ((s5.1 (1) 4) = 0) ∧ (((s5.1 (9) 7) = (44 : Int32)) ∧ (¬ ((5 : Int32) < x6)))) (pA := 26) (pB := 65) (LL := [some (.ref (1)), some (.int x6)]) (ss := []) ?_ ?_ (fun hA7 hB8 => ?_)
    · exact ih x6 s5
    · refine gg_st (go_fg [some (.ref (1)), none] ⟨rfl, trivial⟩) ?_
      exact gg_end rfl
    refine gg_brs (br_if_ne (tgt := 65) (pc' := 48) d_X6_readPorts_45 (by decide) rfl) (fun h9 => ?_) (fun h9 => ?_)
    · refine gg_st (go_aload_n 0 d_X6_readPorts_48 rfl rfl rfl) ?_
      refine gg_st (go_getR (j := 5) cf6 sC_1 rfl (by decide) fl_X6_25 d_X6_readPorts_49 rfl) ?_
      refine gg_st (go_getI (j := 7) cf9 sC_9 rfl (by decide) fl_X6_53 d_X6_readPorts_52 rfl) ?_
      refine gg_st (go_bipush d_X6_readPorts_55 cb_44 rfl) ?_
      refine gg_brs (br_icmp_ne (tgt := 65) (pc' := 60) d_X6_readPorts_57 (by decide) rfl) (fun h10 => ?_) (fun h10 => ?_)
      · refine gg_st (go_iload_n 1 d_X6_readPorts_60 rfl rfl rfl) ?_
        refine gg_st (go_iconst d_X6_readPorts_61 ci_5 rfl) ?_
        refine gg_brs (br_icmp_le (tgt := 26) (pc' := 65) d_X6_readPorts_62 (by decide) rfl) (fun h11 => ?_) (fun h11 => ?_)
        · exact gg_eq (if_neg (fun z => (fun z => (fun z => z h11) z.2) z.2)) hB8
        · exact gg_eq (if_pos ⟨h9, ⟨h10, h11⟩⟩) hA7
      · exact gg_eq (if_neg (fun z => (fun z => h10 z.1) z.2)) hB8
    · exact gg_eq (if_neg (fun z => h9 z.1)) hB8
set_option maxRecDepth 20000 in
theorem k_X6_readPorts (l : Launch) (w : Wo) (F : Nat) (σ : St) : K l w shC m_X6_readPorts 4 [.ref (1)] σ (f_X6_readPorts F σ) (rV) := by
  refine k_of (L := [some (.ref (1)), none]) (plainFor_of_name (by decide +kernel)) 1 rfl (Nat.le_of_ble_eq_true rfl) ?_
  unfold f_X6_readPorts
  refine gg_st (go_aload_n 0 d_X6_readPorts_0 rfl rfl rfl) ?_
  refine gg_st (go_iconst d_X6_readPorts_1 ci_0 rfl) ?_
  refine gv_V (k_X6_readPort l w (0 : Int32) σ) cv_X6_116 sC_1 (Nat.le_of_ble_eq_true rfl) rfl rfl (Nat.le_of_ble_eq_true rfl) d_X6_readPorts_2 rfl (fun s1 => ?_)
  refine gg_st (go_aload_n 0 d_X6_readPorts_5 rfl rfl rfl) ?_
  refine gg_st (go_getI (j := 4) cf6 sC_1 rfl (by decide) fl_X6_47 d_X6_readPorts_6 rfl) ?_
  refine gg_bind 78 (fun (t2 : St) => [some (.ref (1)), none]) (fun (t2 : St) => []) (fun (t2 : St) => t2) ?_ (fun t2 => ?_)
  · refine gg_two (c := ((s1.1 (1) 4) = 0) ∧ ((s1.1 (9) 7) = (40 : Int32))) (pA := 24) (pB := 78) (LL := [some (.ref (1)), none]) (ss := []) ?_ ?_ (fun hA15 hB16 => ?_)
    · refine gg_st (go_iconst d_X6_readPorts_24 ci_1 rfl) ?_
      refine gg_st (go_istore_n 1 d_X6_readPorts_25 rfl (by decide) (L' := [some (.ref (1)), some (.int (1 : Int32))]) rfl rfl) ?_
      refine gg_bind 65 (fun (t12 : St) => [some (.ref (1)), none]) (fun (t12 : St) => []) (fun (t12 : St) => t12) (g_f_X6_readPorts_L26 l w F F (1 : Int32) s1) (fun t12 => ?_)
      refine gg_st (go_aload_n 0 d_X6_readPorts_65 rfl rfl rfl) ?_
      refine gg_st (go_getI (j := 4) cf6 sC_1 rfl (by decide) fl_X6_47 d_X6_readPorts_66 rfl) ?_
      refine gg_br (br_if_ne (tgt := 78) (pc' := 72) d_X6_readPorts_69 (by decide) rfl) (fun h13 => ?_) (fun h13 => ?_)
      · refine gg_st (go_aload_n 0 d_X6_readPorts_72 rfl rfl rfl) ?_
        refine gg_st (go_bipush d_X6_readPorts_73 cb_41 rfl) ?_
        refine gv_V (k_X6_pass l w (41 : Int32) t12) cv_X6_119 sC_1 (Nat.le_of_ble_eq_true rfl) rfl rfl (Nat.le_of_ble_eq_true rfl) d_X6_readPorts_75 rfl (fun s14 => ?_)
        exact gg_end rfl
      · exact gg_end rfl
    · exact gg_end rfl
    refine gg_brs (br_if_ne (tgt := 78) (pc' := 12) d_X6_readPorts_9 (by decide) rfl) (fun h17 => ?_) (fun h17 => ?_)
    · refine gg_st (go_aload_n 0 d_X6_readPorts_12 rfl rfl rfl) ?_
      refine gg_st (go_getR (j := 5) cf6 sC_1 rfl (by decide) fl_X6_25 d_X6_readPorts_13 rfl) ?_
      refine gg_st (go_getI (j := 7) cf9 sC_9 rfl (by decide) fl_X6_53 d_X6_readPorts_16 rfl) ?_
      refine gg_st (go_bipush d_X6_readPorts_19 cb_40 rfl) ?_
      refine gg_brs (br_icmp_ne (tgt := 78) (pc' := 24) d_X6_readPorts_21 (by decide) rfl) (fun h18 => ?_) (fun h18 => ?_)
      · exact gg_eq (if_pos ⟨h17, h18⟩) hA15
      · exact gg_eq (if_neg (fun z => h18 z.2)) hB16
    · exact gg_eq (if_neg (fun z => h17 z.1)) hB16
  · refine gg_st (go_aload_n 0 d_X6_readPorts_78 rfl rfl rfl) ?_
    refine gg_st (go_getI (j := 4) cf6 sC_1 rfl (by decide) fl_X6_47 d_X6_readPorts_79 rfl) ?_
    refine gg_br (br_if_ne (tgt := 91) (pc' := 85) d_X6_readPorts_82 (by decide) rfl) (fun h19 => ?_) (fun h19 => ?_)
    · refine gg_st (go_aload_n 0 d_X6_readPorts_85 rfl rfl rfl) ?_
      refine gg_st (go_bipush d_X6_readPorts_86 cb_59 rfl) ?_
      refine gv_V (k_X6_pass l w (59 : Int32) t2) cv_X6_119 sC_1 (Nat.le_of_ble_eq_true rfl) rfl rfl (Nat.le_of_ble_eq_true rfl) d_X6_readPorts_88 rfl (fun s20 => ?_)
      exact gg_vret rfl d_X6_readPorts_91 rfl
    · exact gg_vret rfl d_X6_readPorts_91 rfl
def f_X6_readKind (F : Nat) (σ : St) : Option (St) :=
  Option.bind (f_X9_advance σ) fun s1 =>
  if (s1.1 (9) 7) = (3 : Int32) then (
    Option.bind (f_X3_find F (s1.2 (9) 9) s1) fun x3 =>
    if x3 = (-1 : Int32) then (
      Option.bind (some (f_X3_isFull s1)) fun x5 =>
      if x5 = 0 then (
        Option.bind (f_X3_add (s1.2 (9) 9) s1) fun s7 =>
        Option.bind (f_X9_advance s7) fun s8 =>
        Option.bind (f_X6_readPorts F s8) fun s9 =>
        some s9)
      else (
        Option.bind (f_X6_refuse (4 : Int32) s1) fun s10 =>
        some s10))
    else (
      Option.bind (f_X6_refuse (3 : Int32) s1) fun s11 =>
      some s11))
  else (
    Option.bind (f_X6_refuseToken s1) fun s12 =>
    some s12)
set_option maxRecDepth 20000 in
theorem k_X6_readKind (l : Launch) (w : Wo) (F : Nat) (σ : St) : K l w shC m_X6_readKind 5 [.ref (1)] σ (f_X6_readKind F σ) (rV) := by
  refine k_of (L := [some (.ref (1))]) (plainFor_of_name (by decide +kernel)) 0 rfl (Nat.le_of_ble_eq_true rfl) ?_
  unfold f_X6_readKind
  refine gg_st (go_aload_n 0 d_X6_readKind_0 rfl rfl rfl) ?_
  refine gg_st (go_getR (j := 5) cf6 sC_1 rfl (by decide) fl_X6_25 d_X6_readKind_1 rfl) ?_
  refine gv_V (k_X9_advance l w  σ) cv_X6_88 sC_9 (Nat.le_of_ble_eq_true rfl) rfl rfl (Nat.le_of_ble_eq_true rfl) d_X6_readKind_4 rfl (fun s1 => ?_)
  refine gg_st (go_aload_n 0 d_X6_readKind_7 rfl rfl rfl) ?_
  refine gg_st (go_getR (j := 5) cf6 sC_1 rfl (by decide) fl_X6_25 d_X6_readKind_8 rfl) ?_
  refine gg_st (go_getI (j := 7) cf9 sC_9 rfl (by decide) fl_X6_53 d_X6_readKind_11 rfl) ?_
  refine gg_st (go_iconst d_X6_readKind_14 ci_3 rfl) ?_
  refine gg_br (br_icmp_eq (tgt := 25) (pc' := 18) d_X6_readKind_15 (by decide) rfl) (fun h2 => ?_) (fun h2 => ?_)
  · refine gg_st (go_aload_n 0 d_X6_readKind_25 rfl rfl rfl) ?_
    refine gg_st (go_getR (j := 6) cf6 sC_1 rfl (by decide) fl_X6_32 d_X6_readKind_26 rfl) ?_
    refine gg_st (go_getR (j := 0) cf0 sC_14 rfl (by decide) fl_X6_91 d_X6_readKind_29 rfl) ?_
    refine gg_st (go_aload_n 0 d_X6_readKind_32 rfl rfl rfl) ?_
    refine gg_st (go_getR (j := 5) cf6 sC_1 rfl (by decide) fl_X6_25 d_X6_readKind_33 rfl) ?_
    refine gg_st (go_getL (j := 9) cf9 sC_9 rfl (by decide) fl_X6_81 d_X6_readKind_36 rfl) ?_
    refine gv_I (k_X3_find l w F (s1.2 (9) 9) s1) cv_X6_95 sC_15 (Nat.le_of_ble_eq_true rfl) rfl rfl (Nat.le_of_ble_eq_true rfl) d_X6_readKind_39 rfl (fun x3 => ?_)
    refine gg_st (go_iconst d_X6_readKind_42 ci_m1 rfl) ?_
    refine gg_br (br_icmp_eq (tgt := 54) (pc' := 46) d_X6_readKind_43 (by decide) rfl) (fun h4 => ?_) (fun h4 => ?_)
    · refine gg_st (go_aload_n 0 d_X6_readKind_54 rfl rfl rfl) ?_
      refine gg_st (go_getR (j := 6) cf6 sC_1 rfl (by decide) fl_X6_32 d_X6_readKind_55 rfl) ?_
      refine gg_st (go_getR (j := 0) cf0 sC_14 rfl (by decide) fl_X6_91 d_X6_readKind_58 rfl) ?_
      refine gv_I (k_X3_isFull l w  s1) cv_X6_105 sC_15 (Nat.le_of_ble_eq_true rfl) rfl rfl (Nat.le_of_ble_eq_true rfl) d_X6_readKind_61 rfl (fun x5 => ?_)
      refine gg_br (br_if_eq (tgt := 75) (pc' := 67) d_X6_readKind_64 (by decide) rfl) (fun h6 => ?_) (fun h6 => ?_)
      · refine gg_st (go_aload_n 0 d_X6_readKind_75 rfl rfl rfl) ?_
        refine gg_st (go_getR (j := 6) cf6 sC_1 rfl (by decide) fl_X6_32 d_X6_readKind_76 rfl) ?_
        refine gg_st (go_getR (j := 0) cf0 sC_14 rfl (by decide) fl_X6_91 d_X6_readKind_79 rfl) ?_
        refine gg_st (go_aload_n 0 d_X6_readKind_82 rfl rfl rfl) ?_
        refine gg_st (go_getR (j := 5) cf6 sC_1 rfl (by decide) fl_X6_25 d_X6_readKind_83 rfl) ?_
        refine gg_st (go_getL (j := 9) cf9 sC_9 rfl (by decide) fl_X6_81 d_X6_readKind_86 rfl) ?_
        refine gv_V (k_X3_add l w (s1.2 (9) 9) s1) cv_X6_109 sC_15 (Nat.le_of_ble_eq_true rfl) rfl rfl (Nat.le_of_ble_eq_true rfl) d_X6_readKind_89 rfl (fun s7 => ?_)
        refine gg_st (go_aload_n 0 d_X6_readKind_92 rfl rfl rfl) ?_
        refine gg_st (go_getR (j := 5) cf6 sC_1 rfl (by decide) fl_X6_25 d_X6_readKind_93 rfl) ?_
        refine gv_V (k_X9_advance l w  s7) cv_X6_88 sC_9 (Nat.le_of_ble_eq_true rfl) rfl rfl (Nat.le_of_ble_eq_true rfl) d_X6_readKind_96 rfl (fun s8 => ?_)
        refine gg_st (go_aload_n 0 d_X6_readKind_99 rfl rfl rfl) ?_
        refine gv_V (k_X6_readPorts l w F  s8) cv_X6_113 sC_1 (Nat.le_of_ble_eq_true rfl) rfl rfl (Nat.le_of_ble_eq_true rfl) d_X6_readKind_100 rfl (fun s9 => ?_)
        exact gg_vret rfl d_X6_readKind_103 rfl
      · refine gg_st (go_aload_n 0 d_X6_readKind_67 rfl rfl rfl) ?_
        refine gg_st (go_iconst d_X6_readKind_68 ci_4 rfl) ?_
        refine gv_V (k_X6_refuse l w (4 : Int32) s1) cv_X6_101 sC_1 (Nat.le_of_ble_eq_true rfl) rfl rfl (Nat.le_of_ble_eq_true rfl) d_X6_readKind_69 rfl (fun s10 => ?_)
        refine gg_st (go_goto (pc' := 103) d_X6_readKind_72 (by decide)) ?_
        exact gg_vret rfl d_X6_readKind_103 rfl
    · refine gg_st (go_aload_n 0 d_X6_readKind_46 rfl rfl rfl) ?_
      refine gg_st (go_iconst d_X6_readKind_47 ci_3 rfl) ?_
      refine gv_V (k_X6_refuse l w (3 : Int32) s1) cv_X6_101 sC_1 (Nat.le_of_ble_eq_true rfl) rfl rfl (Nat.le_of_ble_eq_true rfl) d_X6_readKind_48 rfl (fun s11 => ?_)
      refine gg_st (go_goto (pc' := 103) d_X6_readKind_51 (by decide)) ?_
      exact gg_vret rfl d_X6_readKind_103 rfl
  · refine gg_st (go_aload_n 0 d_X6_readKind_18 rfl rfl rfl) ?_
    refine gv_V (k_X6_refuseToken l w  s1) cv_X6_75 sC_1 (Nat.le_of_ble_eq_true rfl) rfl rfl (Nat.le_of_ble_eq_true rfl) d_X6_readKind_19 rfl (fun s12 => ?_)
    refine gg_st (go_goto (pc' := 103) d_X6_readKind_22 (by decide)) ?_
    exact gg_vret rfl d_X6_readKind_103 rfl
def f_X1_clear (F : Nat) (σ : St) : Option (St) :=
  Option.bind (f_J7_fill_53178 F (3) 1728 (-1 : Int32) σ) fun s1 =>
  Option.bind (some (seti s1 (2) 5 (0 : Int32))) fun s2 =>
  Option.bind (some (seti s2 (2) 6 (0 : Int32))) fun s3 =>
  Option.bind (some (seti s3 (2) 7 (0 : Int32))) fun s4 =>
  some s4
set_option maxRecDepth 20000 in
theorem k_X1_clear (l : Launch) (w : Wo) (F : Nat) (σ : St) : K l w shC m_X1_clear 2 [.ref (2)] σ (f_X1_clear F σ) (rV) := by
  refine k_of (L := [some (.ref (2))]) (plainFor_of_name (by decide +kernel)) 0 rfl (Nat.le_of_ble_eq_true rfl) ?_
  unfold f_X1_clear
  refine gg_st (go_aload_n 0 d_X1_clear_0 rfl rfl rfl) ?_
  refine gg_st (go_getR (j := 0) cf1 sC_2 rfl (by decide) fl_X1_11 d_X1_clear_1 rfl) ?_
  refine gg_st (go_iconst d_X1_clear_4 ci_m1 rfl) ?_
  refine gs_V (k_J7_fill_53178 l w F sC_3 (-1 : Int32) σ) cs_X1_29 (Nat.le_of_ble_eq_true rfl) rfl rfl (Nat.le_of_ble_eq_true rfl) d_X1_clear_5 rfl (fun s1 => ?_)
  refine gg_st (go_aload_n 0 d_X1_clear_8 rfl rfl rfl) ?_
  refine gg_st (go_iconst d_X1_clear_9 ci_0 rfl) ?_
  refine gg_st (go_putI (j := 5) cf1 sC_2 rfl (by decide) rfl rfl fl_X1_35 d_X1_clear_10 rfl) ?_
  refine gg_som (fun s2 => ?_)
  refine gg_st (go_aload_n 0 d_X1_clear_13 rfl rfl rfl) ?_
  refine gg_st (go_iconst d_X1_clear_14 ci_0 rfl) ?_
  refine gg_st (go_putI (j := 6) cf1 sC_2 rfl (by decide) rfl rfl fl_X1_39 d_X1_clear_15 rfl) ?_
  refine gg_som (fun s3 => ?_)
  refine gg_st (go_aload_n 0 d_X1_clear_18 rfl rfl rfl) ?_
  refine gg_st (go_iconst d_X1_clear_19 ci_0 rfl) ?_
  refine gg_st (go_putI (j := 7) cf1 sC_2 rfl (by decide) rfl rfl fl_X1_42 d_X1_clear_20 rfl) ?_
  refine gg_som (fun s4 => ?_)
  exact gg_vret rfl d_X1_clear_23 rfl
def f_X1_join (p1 : Int32) (p2 : Int32) (σ : St) : Option (St) :=
  Option.bind (some (f_X11_isInside p1 (1728 : Int32))) fun x1 =>
  if (x1 = 0) ∨ ((f_X11_isInside p2 (1728 : Int32)) = 0) then (
    some σ)
  else (
    if inb p1 1728 then (
      Option.bind (some (seti σ (3) (ix p1) p2)) fun s5 =>
      if inb p2 1728 then (
        Option.bind (some (seti s5 (3) (ix p2) p1)) fun s7 =>
        some s7)
      else none)
    else none)
set_option maxRecDepth 20000 in
theorem k_X1_join (l : Launch) (w : Wo) (p1 : Int32) (p2 : Int32) (σ : St) : K l w shC m_X1_join 2 [.ref (2), .int p1, .int p2] σ (f_X1_join p1 p2 σ) (rV) := by
  refine k_of (L := [some (.ref (2)), some (.int p1), some (.int p2)]) (plainFor_of_name (by decide +kernel)) 0 rfl (Nat.le_of_ble_eq_true rfl) ?_
  unfold f_X1_join
  refine gg_st (go_iload_n 1 d_X1_join_0 rfl rfl rfl) ?_
  refine gg_st (go_sipush d_X1_join_1 cs_1728 rfl) ?_
  refine gs_I (k_X11_isInside l w p1 (1728 : Int32) σ) cs_X1_45 (Nat.le_of_ble_eq_true rfl) rfl rfl (Nat.le_of_ble_eq_true rfl) d_X1_join_4 rfl (fun x1 => ?_)
  refine gg_two (c := (x1 = 0) ∨ ((f_X11_isInside p2 (1728 : Int32)) = 0)) (pA := 34) (pB := 20) (LL := [some (.ref (2)), some (.int p1), some (.int p2)]) (ss := []) ?_ ?_ (fun hA8 hB9 => ?_)
  · exact gg_vret rfl d_X1_join_34 rfl
  · refine gg_st (go_aload_n 0 d_X1_join_20 rfl rfl rfl) ?_
    refine gg_st (go_getR (j := 0) cf1 sC_2 rfl (by decide) fl_X1_11 d_X1_join_21 rfl) ?_
    refine gg_st (go_iload_n 1 d_X1_join_24 rfl rfl rfl) ?_
    refine gg_st (go_iload_n 2 d_X1_join_25 rfl rfl rfl) ?_
    refine gg_gd (fun h4 => ?_)
    refine gg_st (go_iast sC_3 h4 d_X1_join_26 rfl) ?_
    refine gg_som (fun s5 => ?_)
    refine gg_st (go_aload_n 0 d_X1_join_27 rfl rfl rfl) ?_
    refine gg_st (go_getR (j := 0) cf1 sC_2 rfl (by decide) fl_X1_11 d_X1_join_28 rfl) ?_
    refine gg_st (go_iload_n 2 d_X1_join_31 rfl rfl rfl) ?_
    refine gg_st (go_iload_n 1 d_X1_join_32 rfl rfl rfl) ?_
    refine gg_gd (fun h6 => ?_)
    refine gg_st (go_iast sC_3 h6 d_X1_join_33 rfl) ?_
    refine gg_som (fun s7 => ?_)
    exact gg_vret rfl d_X1_join_34 rfl
  refine gg_brs (br_if_eq (tgt := 34) (pc' := 10) d_X1_join_7 (by decide) rfl) (fun h10 => ?_) (fun h10 => ?_)
  · exact gg_eq (if_pos (Or.inl h10)) hA8
  · refine gg_st (go_iload_n 2 d_X1_join_10 rfl rfl rfl) ?_
    refine gg_st (go_sipush d_X1_join_11 cs_1728 rfl) ?_
    refine gg_st (go_sI (k_X11_isInside l w p2 (1728 : Int32) σ) cs_X1_45 (Nat.le_of_ble_eq_true rfl) rfl rfl (Nat.le_of_ble_eq_true rfl) d_X1_join_14 rfl) ?_
    refine gg_brs (br_if_eq (tgt := 34) (pc' := 20) d_X1_join_17 (by decide) rfl) (fun h11 => ?_) (fun h11 => ?_)
    · exact gg_eq (if_pos (Or.inr h11)) hA8
    · exact gg_eq (if_neg (fun z => z.elim h10 h11)) hB9
def f_X1_stand (p1 : Int32) (σ : St) : Option (Int32 × St) :=
  if (0 ≤ p1) ∧ (¬ ((60 : Int32) ≤ p1)) then (
    if inb p1 60 then (
      if inb p1 60 then (
        Option.bind (some (seti σ (6) (ix p1) ((σ.1 (6) (ix p1)) + (1 : Int32)))) fun s4 =>
        if inb p1 60 then (
          if (s4.1 (6) (ix p1)) ≤ (2 : Int32) then (
            if inb p1 60 then (
              some ((((1600 : Int32) + ((2 : Int32) * p1)) + (s4.1 (6) (ix p1))) - (1 : Int32), s4))
            else none)
          else (
            some ((-1 : Int32), s4)))
        else none)
      else none)
    else none)
  else (
    some ((-1 : Int32), σ))
set_option maxRecDepth 20000 in
theorem k_X1_stand (l : Launch) (w : Wo) (p1 : Int32) (σ : St) : K l w shC m_X1_stand 1 [.ref (2), .int p1] σ (f_X1_stand p1 σ) (rIS) := by
  refine k_of (L := [some (.ref (2)), some (.int p1)]) (plainFor_of_name (by decide +kernel)) 0 rfl (Nat.le_of_ble_eq_true rfl) ?_
  unfold f_X1_stand
  refine gg_st (go_iload_n 1 d_X1_stand_0 rfl rfl rfl) ?_
  refine gg_two (c := (0 ≤ p1) ∧ (¬ ((60 : Int32) ≤ p1))) (pA := 12) (pB := 10) (LL := [some (.ref (2)), some (.int p1)]) (ss := []) ?_ ?_ (fun hA9 hB10 => ?_)
  · refine gg_st (go_aload_n 0 d_X1_stand_12 rfl rfl rfl) ?_
    refine gg_st (go_getR (j := 3) cf1 sC_2 rfl (by decide) fl_X1_22 d_X1_stand_13 rfl) ?_
    refine gg_st (go_iload_n 1 d_X1_stand_16 rfl rfl rfl) ?_
    refine gg_st (go_dup2 d_X1_stand_17 rfl rfl rfl) ?_
    refine gg_gd (fun h2 => ?_)
    refine gg_st (go_iald sC_6 h2 d_X1_stand_18 rfl) ?_
    refine gg_st (go_iconst d_X1_stand_19 ci_1 rfl) ?_
    refine gg_st (go_iadd d_X1_stand_20 rfl) ?_
    refine gg_gd (fun h3 => ?_)
    refine gg_st (go_iast sC_6 h3 d_X1_stand_21 rfl) ?_
    refine gg_som (fun s4 => ?_)
    refine gg_st (go_aload_n 0 d_X1_stand_22 rfl rfl rfl) ?_
    refine gg_st (go_getR (j := 3) cf1 sC_2 rfl (by decide) fl_X1_22 d_X1_stand_23 rfl) ?_
    refine gg_st (go_iload_n 1 d_X1_stand_26 rfl rfl rfl) ?_
    refine gg_gd (fun h5 => ?_)
    refine gg_st (go_iald sC_6 h5 d_X1_stand_27 rfl) ?_
    refine gg_st (go_iconst d_X1_stand_28 ci_2 rfl) ?_
    refine gg_br (br_icmp_gt (tgt := 51) (pc' := 32) d_X1_stand_29 (by decide) rfl) (fun h7 => ?_) (fun h7 => ?_)
    · refine gg_st (go_sipush d_X1_stand_32 cs_1600 rfl) ?_
      refine gg_st (go_iconst d_X1_stand_35 ci_2 rfl) ?_
      refine gg_st (go_iload_n 1 d_X1_stand_36 rfl rfl rfl) ?_
      refine gg_st (go_imul d_X1_stand_37 rfl) ?_
      refine gg_st (go_iadd d_X1_stand_38 rfl) ?_
      refine gg_st (go_aload_n 0 d_X1_stand_39 rfl rfl rfl) ?_
      refine gg_st (go_getR (j := 3) cf1 sC_2 rfl (by decide) fl_X1_22 d_X1_stand_40 rfl) ?_
      refine gg_st (go_iload_n 1 d_X1_stand_43 rfl rfl rfl) ?_
      refine gg_gd (fun h8 => ?_)
      refine gg_st (go_iald sC_6 h8 d_X1_stand_44 rfl) ?_
      refine gg_st (go_iadd d_X1_stand_45 rfl) ?_
      refine gg_st (go_iconst d_X1_stand_46 ci_1 rfl) ?_
      refine gg_st (go_isub d_X1_stand_47 rfl) ?_
      refine gg_st (go_goto (pc' := 52) d_X1_stand_48 (by decide)) ?_
      exact gg_iret rfl d_X1_stand_52 rfl
    · refine gg_st (go_iconst d_X1_stand_51 ci_m1 rfl) ?_
      exact gg_iret rfl d_X1_stand_52 rfl
  · refine gg_st (go_iconst d_X1_stand_10 ci_m1 rfl) ?_
    exact gg_iret rfl d_X1_stand_11 rfl
  refine gg_brs (br_if_lt (tgt := 10) (pc' := 4) d_X1_stand_1 (by decide) rfl) (fun h11 => ?_) (fun h11 => ?_)
  · refine gg_st (go_iload_n 1 d_X1_stand_4 rfl rfl rfl) ?_
    refine gg_st (go_bipush d_X1_stand_5 cb_60 rfl) ?_
    refine gg_brs (br_icmp_lt (tgt := 12) (pc' := 10) d_X1_stand_7 (by decide) rfl) (fun h12 => ?_) (fun h12 => ?_)
    · exact gg_eq (if_neg (fun z => (fun z => z h12) z.2)) hB10
    · exact gg_eq (if_pos ⟨h11, h12⟩) hA9
  · exact gg_eq (if_neg (fun z => h11 z.1)) hB10
def f_X1_addEnds_L2 (F : Nat) : Nat → Int32 → St → Option (St)
  | 0, _, _ => none
  | n + 1, v1, g =>
    if (v1 < (g.1 (2) 6)) ∧ (v1 < (60 : Int32)) then (
      if inb v1 60 then (
        Option.bind (
          if (g.1 (6) (ix v1)) = (1 : Int32) then (
            Option.bind (
              if (g.1 (2) 7) < (8 : Int32) then (
                Option.bind (f_X1_stand v1 g) fun x8 =>
                Option.bind (f_X1_join ((1720 : Int32) + (g.1 (2) 7)) x8.1 x8.2) fun s9 =>
                some s9)
              else (
                some g)) fun t6 =>
            Option.bind (some (seti t6 (2) 7 ((t6.1 (2) 7) + (1 : Int32)))) fun s10 =>
            some s10)
          else (
            some g)) fun t4 =>
        f_X1_addEnds_L2 F n (v1 + (1 : Int32)) t4)
      else none)
    else (
      some g)
def f_X1_addEnds (F : Nat) (σ : St) : Option (St) :=
  Option.bind (f_X1_addEnds_L2 F F (0 : Int32) σ) fun t15 =>
  some t15
set_option maxRecDepth 20000 in
theorem g_f_X1_addEnds_L2 (l : Launch) (w : Wo) (F : Nat) : ∀ (n : Nat) (v1 : Int32) (g : St), GG l w shC m_X1_addEnds 3 2 [some (.ref (2)), some (.int v1)] [] g (f_X1_addEnds_L2 F n v1 g) (fun (t : St) => .inl (68, [none, none], [], t)) := by
  intro n
  induction n with
  | zero =>
    intro v1 g
    exact gg_none
  | succ n ih =>
    intro v1 g
    rw [f_X1_addEnds_L2]
    refine gg_st (go_iload_n 1 d_X1_addEnds_2 rfl rfl rfl) ?_
    refine gg_st (go_aload_n 0 d_X1_addEnds_3 rfl rfl rfl) ?_
    refine gg_st (go_getI (j := 6) cf1 sC_2 rfl (by decide) fl_X1_39 d_X1_addEnds_4 rfl) ?_
    refine gg_two (c := (v1 < (g.1 (2) 6)) ∧ (v1 < (60 : Int32))) (pA := 16) (pB := 68) (LL := [some (.ref (2)), some (.int v1)]) (ss := []) ?_ ?_ (fun hA11 hB12 => ?_)
    · refine gg_st (go_aload_n 0 d_X1_addEnds_16 rfl rfl rfl) ?_
      refine gg_st (go_getR (j := 3) cf1 sC_2 rfl (by decide) fl_X1_22 d_X1_addEnds_17 rfl) ?_
      refine gg_st (go_iload_n 1 d_X1_addEnds_20 rfl rfl rfl) ?_
      refine gg_gd (fun h3 => ?_)
      refine gg_st (go_iald sC_6 h3 d_X1_addEnds_21 rfl) ?_
      refine gg_st (go_iconst d_X1_addEnds_22 ci_1 rfl) ?_
      refine gg_bind 62 (fun (t4 : St) => [some (.ref (2)), some (.int v1)]) (fun (t4 : St) => []) (fun (t4 : St) => t4) ?_ (fun t4 => ?_)
      · refine gg_br (br_icmp_ne (tgt := 62) (pc' := 26) d_X1_addEnds_23 (by decide) rfl) (fun h5 => ?_) (fun h5 => ?_)
        · refine gg_st (go_aload_n 0 d_X1_addEnds_26 rfl rfl rfl) ?_
          refine gg_st (go_getI (j := 7) cf1 sC_2 rfl (by decide) fl_X1_42 d_X1_addEnds_27 rfl) ?_
          refine gg_st (go_bipush d_X1_addEnds_30 cb_8 rfl) ?_
          refine gg_bind 52 (fun (t6 : St) => [some (.ref (2)), some (.int v1)]) (fun (t6 : St) => []) (fun (t6 : St) => t6) ?_ (fun t6 => ?_)
          · refine gg_br (br_icmp_ge (tgt := 52) (pc' := 35) d_X1_addEnds_32 (by decide) rfl) (fun h7 => ?_) (fun h7 => ?_)
            · refine gg_st (go_aload_n 0 d_X1_addEnds_35 rfl rfl rfl) ?_
              refine gg_st (go_sipush d_X1_addEnds_36 cs_1720 rfl) ?_
              refine gg_st (go_aload_n 0 d_X1_addEnds_39 rfl rfl rfl) ?_
              refine gg_st (go_getI (j := 7) cf1 sC_2 rfl (by decide) fl_X1_42 d_X1_addEnds_40 rfl) ?_
              refine gg_st (go_iadd d_X1_addEnds_43 rfl) ?_
              refine gg_st (go_aload_n 0 d_X1_addEnds_44 rfl rfl rfl) ?_
              refine gg_st (go_iload_n 1 d_X1_addEnds_45 rfl rfl rfl) ?_
              refine gv_IS (k_X1_stand l w v1 g) cv_X1_49 sC_2 (Nat.le_of_ble_eq_true rfl) rfl rfl (Nat.le_of_ble_eq_true rfl) d_X1_addEnds_46 rfl (fun x8 => ?_)
              refine gv_V (k_X1_join l w ((1720 : Int32) + (g.1 (2) 7)) x8.1 x8.2) cv_X1_53 sC_2 (Nat.le_of_ble_eq_true rfl) rfl rfl (Nat.le_of_ble_eq_true rfl) d_X1_addEnds_49 rfl (fun s9 => ?_)
              exact gg_end rfl
            · exact gg_end rfl
          · refine gg_st (go_aload_n 0 d_X1_addEnds_52 rfl rfl rfl) ?_
            refine gg_st (go_dup d_X1_addEnds_53 rfl rfl) ?_
            refine gg_st (go_getI (j := 7) cf1 sC_2 rfl (by decide) fl_X1_42 d_X1_addEnds_54 rfl) ?_
            refine gg_st (go_iconst d_X1_addEnds_57 ci_1 rfl) ?_
            refine gg_st (go_iadd d_X1_addEnds_58 rfl) ?_
            refine gg_st (go_putI (j := 7) cf1 sC_2 rfl (by decide) rfl rfl fl_X1_42 d_X1_addEnds_59 rfl) ?_
            refine gg_som (fun s10 => ?_)
            exact gg_end rfl
        · exact gg_end rfl
      · refine gg_st (go_iinc 1 d_X1_addEnds_62 rfl (v := v1 + (1 : Int32)) (by rw [ci_1]) (by decide) (L' := [some (.ref (2)), some (.int (v1 + (1 : Int32)))]) rfl rfl) ?_
        refine gg_st (go_goto (pc' := 2) d_X1_addEnds_65 (by decide)) ?_
        exact ih (v1 + (1 : Int32)) t4
    · refine gg_st (go_fg [none, none] trivial) ?_
      exact gg_end rfl
    refine gg_brs (br_icmp_ge (tgt := 68) (pc' := 10) d_X1_addEnds_7 (by decide) rfl) (fun h13 => ?_) (fun h13 => ?_)
    · refine gg_st (go_iload_n 1 d_X1_addEnds_10 rfl rfl rfl) ?_
      refine gg_st (go_bipush d_X1_addEnds_11 cb_60 rfl) ?_
      refine gg_brs (br_icmp_ge (tgt := 68) (pc' := 16) d_X1_addEnds_13 (by decide) rfl) (fun h14 => ?_) (fun h14 => ?_)
      · exact gg_eq (if_pos ⟨h13, h14⟩) hA11
      · exact gg_eq (if_neg (fun z => h14 z.2)) hB12
    · exact gg_eq (if_neg (fun z => h13 z.1)) hB12
set_option maxRecDepth 20000 in
theorem k_X1_addEnds (l : Launch) (w : Wo) (F : Nat) (σ : St) : K l w shC m_X1_addEnds 3 [.ref (2)] σ (f_X1_addEnds F σ) (rV) := by
  refine k_of (L := [some (.ref (2)), none]) (plainFor_of_name (by decide +kernel)) 1 rfl (Nat.le_of_ble_eq_true rfl) ?_
  unfold f_X1_addEnds
  refine gg_st (go_iconst d_X1_addEnds_0 ci_0 rfl) ?_
  refine gg_st (go_istore_n 1 d_X1_addEnds_1 rfl (by decide) (L' := [some (.ref (2)), some (.int (0 : Int32))]) rfl rfl) ?_
  refine gg_bind 68 (fun (t15 : St) => [none, none]) (fun (t15 : St) => []) (fun (t15 : St) => t15) (g_f_X1_addEnds_L2 l w F F (0 : Int32) σ) (fun t15 => ?_)
  exact gg_vret rfl d_X1_addEnds_68 rfl
def f_X1_hasNameStanding_L2 (F : Nat) (c1 : Int32) (c2 : Int32) (σ : St) : Nat → Int32 → Option (Int32)
  | 0, _ => none
  | n + 1, v1 =>
    if (v1 < (σ.1 (2) 6)) ∧ (v1 < (60 : Int32)) then (
      if inb v1 60 then (
        Option.bind (some (fun (t5 : Unit) =>
          f_X1_hasNameStanding_L2 F c1 c2 σ n (v1 + (1 : Int32)))) fun jp6 =>
        if c1 ≤ (σ.1 (6) (ix v1)) then (
          if inb v1 60 then (
            if (σ.1 (6) (ix v1)) ≤ c2 then (
              some (1 : Int32))
            else (
              jp6 ()))
          else none)
        else (
          jp6 ()))
      else none)
    else (
      some (0 : Int32))
def f_X1_hasNameStanding (F : Nat) (p1 : Int32) (p2 : Int32) (σ : St) : Option (Int32) :=
  f_X1_hasNameStanding_L2 F p1 p2 σ F (0 : Int32)
set_option maxRecDepth 20000 in
theorem g_f_X1_hasNameStanding_L2 (l : Launch) (w : Wo) (F : Nat) (c1 : Int32) (c2 : Int32) (σ : St) : ∀ (n : Nat) (v1 : Int32), GG l w shC m_X1_hasNameStanding 1 2 [some (.ref (2)), some (.int c1), some (.int c2), some (.int v1)] [] σ (f_X1_hasNameStanding_L2 F c1 c2 σ n v1) (fun q => .inr ((rI σ) q)) := by
  intro n
  induction n with
  | zero =>
    intro v1
    exact gg_none
  | succ n ih =>
    intro v1
    rw [f_X1_hasNameStanding_L2]
    refine gg_st (go_iload_n 3 d_X1_hasNameStanding_2 rfl rfl rfl) ?_
    refine gg_st (go_aload_n 0 d_X1_hasNameStanding_3 rfl rfl rfl) ?_
    refine gg_st (go_getI (j := 6) cf1 sC_2 rfl (by decide) fl_X1_39 d_X1_hasNameStanding_4 rfl) ?_
    refine gg_two (c := (v1 < (σ.1 (2) 6)) ∧ (v1 < (60 : Int32))) (pA := 16) (pB := 44) (LL := [some (.ref (2)), some (.int c1), some (.int c2), some (.int v1)]) (ss := []) ?_ ?_ (fun hA10 hB11 => ?_)
    · refine gg_st (go_aload_n 0 d_X1_hasNameStanding_16 rfl rfl rfl) ?_
      refine gg_st (go_getR (j := 3) cf1 sC_2 rfl (by decide) fl_X1_22 d_X1_hasNameStanding_17 rfl) ?_
      refine gg_st (go_iload_n 3 d_X1_hasNameStanding_20 rfl rfl rfl) ?_
      refine gg_gd (fun h3 => ?_)
      refine gg_st (go_iald sC_6 h3 d_X1_hasNameStanding_21 rfl) ?_
      refine gg_st (go_iload_n 1 d_X1_hasNameStanding_22 rfl rfl rfl) ?_
      refine gg_jp 38 (fun (t5 : Unit) => [some (.ref (2)), some (.int c1), some (.int c2), some (.int v1)]) (fun (t5 : Unit) => []) (fun (t5 : Unit) => σ) (fun t5 => ?_) (fun jp6 hjp6 => ?_)
      · refine gg_st (go_iinc 3 d_X1_hasNameStanding_38 rfl (v := v1 + (1 : Int32)) (by rw [ci_1]) (by decide) (L' := [some (.ref (2)), some (.int c1), some (.int c2), some (.int (v1 + (1 : Int32)))]) rfl rfl) ?_
        refine gg_st (go_goto (pc' := 2) d_X1_hasNameStanding_41 (by decide)) ?_
        exact ih (v1 + (1 : Int32))
      refine gg_br (br_icmp_lt (tgt := 38) (pc' := 26) d_X1_hasNameStanding_23 (by decide) rfl) (fun h7 => ?_) (fun h7 => ?_)
      · refine gg_st (go_aload_n 0 d_X1_hasNameStanding_26 rfl rfl rfl) ?_
        refine gg_st (go_getR (j := 3) cf1 sC_2 rfl (by decide) fl_X1_22 d_X1_hasNameStanding_27 rfl) ?_
        refine gg_st (go_iload_n 3 d_X1_hasNameStanding_30 rfl rfl rfl) ?_
        refine gg_gd (fun h8 => ?_)
        refine gg_st (go_iald sC_6 h8 d_X1_hasNameStanding_31 rfl) ?_
        refine gg_st (go_iload_n 2 d_X1_hasNameStanding_32 rfl rfl rfl) ?_
        refine gg_br (br_icmp_gt (tgt := 38) (pc' := 36) d_X1_hasNameStanding_33 (by decide) rfl) (fun h9 => ?_) (fun h9 => ?_)
        · refine gg_st (go_iconst d_X1_hasNameStanding_36 ci_1 rfl) ?_
          exact gg_zret (Or.inr rfl) rfl d_X1_hasNameStanding_37 rfl
        · exact hjp6 ()
      · exact hjp6 ()
    · refine gg_st (go_iconst d_X1_hasNameStanding_44 ci_0 rfl) ?_
      exact gg_zret (Or.inl rfl) rfl d_X1_hasNameStanding_45 rfl
    refine gg_brs (br_icmp_ge (tgt := 44) (pc' := 10) d_X1_hasNameStanding_7 (by decide) rfl) (fun h12 => ?_) (fun h12 => ?_)
    · refine gg_st (go_iload_n 3 d_X1_hasNameStanding_10 rfl rfl rfl) ?_
      refine gg_st (go_bipush d_X1_hasNameStanding_11 cb_60 rfl) ?_
      refine gg_brs (br_icmp_ge (tgt := 44) (pc' := 16) d_X1_hasNameStanding_13 (by decide) rfl) (fun h13 => ?_) (fun h13 => ?_)
      · exact gg_eq (if_pos ⟨h12, h13⟩) hA10
      · exact gg_eq (if_neg (fun z => h13 z.2)) hB11
    · exact gg_eq (if_neg (fun z => h12 z.1)) hB11
set_option maxRecDepth 20000 in
theorem k_X1_hasNameStanding (l : Launch) (w : Wo) (F : Nat) (p1 : Int32) (p2 : Int32) (σ : St) : K l w shC m_X1_hasNameStanding 1 [.ref (2), .int p1, .int p2] σ (f_X1_hasNameStanding F p1 p2 σ) (rI σ) := by
  refine k_of (L := [some (.ref (2)), some (.int p1), some (.int p2), none]) (plainFor_of_name (by decide +kernel)) 1 rfl (Nat.le_of_ble_eq_true rfl) ?_
  unfold f_X1_hasNameStanding
  refine gg_st (go_iconst d_X1_hasNameStanding_0 ci_0 rfl) ?_
  refine gg_st (go_istore_n 3 d_X1_hasNameStanding_1 rfl (by decide) (L' := [some (.ref (2)), some (.int p1), some (.int p2), some (.int (0 : Int32))]) rfl rfl) ?_
  refine g_f_X1_hasNameStanding_L2 l w F p1 p2 σ  F (0 : Int32)
def f_X1_isStanding (p1 : Int32) : Int32 :=
  if ((1600 : Int32) ≤ p1) ∧ (p1 < (1720 : Int32)) then (
    (1 : Int32))
  else (
    (0 : Int32))
set_option maxRecDepth 20000 in
theorem k_X1_isStanding (l : Launch) (w : Wo) (p1 : Int32) (σ : St) : K l w shC m_X1_isStanding 1 [.int p1] σ (some (f_X1_isStanding p1)) (rI σ) := by
  refine k_of (L := [some (.int p1)]) (plainFor_of_name (by decide +kernel)) 0 rfl (Nat.le_of_ble_eq_true rfl) ?_
  unfold f_X1_isStanding
  refine gg_st (go_iload_n 0 d_X1_isStanding_0 rfl rfl rfl) ?_
  refine gg_st (go_sipush d_X1_isStanding_1 cs_1600 rfl) ?_
  refine gg_twov (c := ((1600 : Int32) ≤ p1) ∧ (p1 < (1720 : Int32))) (pA := 14) (pB := 18) (LL := [some (.int p1)]) (ss := []) ?_ ?_ (fun hA1 hB2 => ?_)
  · refine gg_st (go_iconst d_X1_isStanding_14 ci_1 rfl) ?_
    refine gg_st (go_goto (pc' := 19) d_X1_isStanding_15 (by decide)) ?_
    exact gg_zret (Or.inr rfl) rfl d_X1_isStanding_19 rfl
  · refine gg_st (go_iconst d_X1_isStanding_18 ci_0 rfl) ?_
    exact gg_zret (Or.inl rfl) rfl d_X1_isStanding_19 rfl
  refine gg_brs (br_icmp_lt (tgt := 18) (pc' := 7) d_X1_isStanding_4 (by decide) rfl) (fun h3 => ?_) (fun h3 => ?_)
  · refine gg_st (go_iload_n 0 d_X1_isStanding_7 rfl rfl rfl) ?_
    refine gg_st (go_sipush d_X1_isStanding_8 cs_1720 rfl) ?_
    refine gg_brs (br_icmp_ge (tgt := 18) (pc' := 14) d_X1_isStanding_11 (by decide) rfl) (fun h4 => ?_) (fun h4 => ?_)
    · exact gg_eq (congrArg some (if_pos ⟨h3, h4⟩)) hA1
    · exact gg_eq (congrArg some (if_neg (fun z => h4 z.2))) hB2
  · exact gg_eq (congrArg some (if_neg (fun z => h3 z.1))) hB2
def f_X1_passName (p1 : Int32) (σ : St) : Option (Int32 × St) :=
  Option.bind (some (p1 - (1600 : Int32))) fun x1 =>
  if (0 ≤ x1) ∧ (¬ ((120 : Int32) ≤ x1)) then (
    if inb (x1 >>> ((1 : Int32) &&& 31)) 60 then (
      Option.bind (some (seti σ (7) (ix (x1 >>> ((1 : Int32) &&& 31))) (1 : Int32))) fun s5 =>
      if inb ((1600 : Int32) + (x1 ^^^ (1 : Int32))) 1728 then (
        some (s5.1 (3) (ix ((1600 : Int32) + (x1 ^^^ (1 : Int32)))), s5))
      else none)
    else none)
  else (
    some ((-1 : Int32), σ))
set_option maxRecDepth 20000 in
theorem k_X1_passName (l : Launch) (w : Wo) (p1 : Int32) (σ : St) : K l w shC m_X1_passName 1 [.ref (2), .int p1] σ (f_X1_passName p1 σ) (rIS) := by
  refine k_of (L := [some (.ref (2)), some (.int p1), none]) (plainFor_of_name (by decide +kernel)) 1 rfl (Nat.le_of_ble_eq_true rfl) ?_
  unfold f_X1_passName
  refine gg_st (go_iload_n 1 d_X1_passName_0 rfl rfl rfl) ?_
  refine gg_st (go_sipush d_X1_passName_1 cs_1600 rfl) ?_
  refine gg_st (go_isub d_X1_passName_4 rfl) ?_
  refine gg_nm (fun _ => [some (.ref (2)), some (.int p1), none]) (fun (x1 : Int32) => [.int x1]) (fun x1 => ?_)
  refine gg_st (go_istore_n 2 d_X1_passName_5 rfl (by decide) (L' := [some (.ref (2)), some (.int p1), some (.int x1)]) rfl rfl) ?_
  refine gg_st (go_iload_n 2 d_X1_passName_6 rfl rfl rfl) ?_
  refine gg_two (c := (0 ≤ x1) ∧ (¬ ((120 : Int32) ≤ x1))) (pA := 18) (pB := 16) (LL := [some (.ref (2)), some (.int p1), some (.int x1)]) (ss := []) ?_ ?_ (fun hA7 hB8 => ?_)
  · refine gg_st (go_aload_n 0 d_X1_passName_18 rfl rfl rfl) ?_
    refine gg_st (go_getR (j := 4) cf1 sC_2 rfl (by decide) fl_X1_25 d_X1_passName_19 rfl) ?_
    refine gg_st (go_iload_n 2 d_X1_passName_22 rfl rfl rfl) ?_
    refine gg_st (go_iconst d_X1_passName_23 ci_1 rfl) ?_
    refine gg_st (go_ishr d_X1_passName_24 rfl) ?_
    refine gg_st (go_iconst d_X1_passName_25 ci_1 rfl) ?_
    refine gg_gd (fun h4 => ?_)
    refine gg_st (go_zast (Or.inr rfl) sC_7 h4 d_X1_passName_26 rfl) ?_
    refine gg_som (fun s5 => ?_)
    refine gg_st (go_aload_n 0 d_X1_passName_27 rfl rfl rfl) ?_
    refine gg_st (go_getR (j := 0) cf1 sC_2 rfl (by decide) fl_X1_11 d_X1_passName_28 rfl) ?_
    refine gg_st (go_sipush d_X1_passName_31 cs_1600 rfl) ?_
    refine gg_st (go_iload_n 2 d_X1_passName_34 rfl rfl rfl) ?_
    refine gg_st (go_iconst d_X1_passName_35 ci_1 rfl) ?_
    refine gg_st (go_ixor d_X1_passName_36 rfl) ?_
    refine gg_st (go_iadd d_X1_passName_37 rfl) ?_
    refine gg_gd (fun h6 => ?_)
    refine gg_st (go_iald sC_3 h6 d_X1_passName_38 rfl) ?_
    exact gg_iret rfl d_X1_passName_39 rfl
  · refine gg_st (go_iconst d_X1_passName_16 ci_m1 rfl) ?_
    exact gg_iret rfl d_X1_passName_17 rfl
  refine gg_brs (br_if_lt (tgt := 16) (pc' := 10) d_X1_passName_7 (by decide) rfl) (fun h9 => ?_) (fun h9 => ?_)
  · refine gg_st (go_iload_n 2 d_X1_passName_10 rfl rfl rfl) ?_
    refine gg_st (go_bipush d_X1_passName_11 cb_120 rfl) ?_
    refine gg_brs (br_icmp_lt (tgt := 18) (pc' := 16) d_X1_passName_13 (by decide) rfl) (fun h10 => ?_) (fun h10 => ?_)
    · exact gg_eq (if_neg (fun z => (fun z => z h10) z.2)) hB8
    · exact gg_eq (if_pos ⟨h9, h10⟩) hA7
  · exact gg_eq (if_neg (fun z => h9 z.1)) hB8
def f_X1_farCode_L23 (F : Nat) : Nat → Int32 → Int32 → St → Option (Int32 × St)
  | 0, _, _, _ => none
  | n + 1, v6, v7, g =>
    if (v7 < (60 : Int32)) ∧ (¬ ((f_X1_isStanding v6) = 0)) then (
      Option.bind (f_X1_passName v6 g) fun x8 =>
      f_X1_farCode_L23 F n x8.1 (v7 + (1 : Int32)) x8.2)
    else (
      some (v6, g))
def f_X1_farCode (F : Nat) (p1 : Int32) (σ : St) : Option (Int32 × St) :=
  Option.bind (some (f_X11_isInside p1 (1728 : Int32))) fun x1 =>
  Option.bind (
    if x1 = 0 then (
      some (-1 : Int32))
    else (
      if inb p1 1728 then (
        some (σ.1 (3) (ix p1)))
      else none)) fun t2 =>
  Option.bind (f_X1_farCode_L23 F F t2 (0 : Int32) σ) fun t13 =>
  if (1720 : Int32) ≤ t13.1 then (
    Option.bind (some (f_X11_endCode (t13.1 - (1720 : Int32)))) fun x15 =>
    some (x15, t13.2))
  else (
    some (t13.1, t13.2))
set_option maxRecDepth 20000 in
theorem g_f_X1_farCode_L23 (l : Launch) (w : Wo) (F : Nat) : ∀ (n : Nat) (v6 : Int32) (v7 : Int32) (g : St), GG l w shC m_X1_farCode 2 23 [some (.ref (2)), none, some (.int v6), some (.int v7)] [] g (f_X1_farCode_L23 F n v6 v7 g) (fun (t : Int32 × St) => .inl (48, [none, none, some (.int t.1), none], [], t.2)) := by
  intro n
  induction n with
  | zero =>
    intro v6 v7 g
    exact gg_none
  | succ n ih =>
    intro v6 v7 g
    rw [f_X1_farCode_L23]
    refine gg_st (go_iload_n 3 d_X1_farCode_23 rfl rfl rfl) ?_
    refine gg_st (go_bipush d_X1_farCode_24 cb_60 rfl) ?_
    refine gg_two (c := (v7 < (60 : Int32)) ∧ (¬ ((f_X1_isStanding v6) = 0))) (pA := 36) (pB := 48) (LL := [some (.ref (2)), none, some (.int v6), some (.int v7)]) (ss := []) ?_ ?_ (fun hA9 hB10 => ?_)
    · refine gg_st (go_aload_n 0 d_X1_farCode_36 rfl rfl rfl) ?_
      refine gg_st (go_iload_n 2 d_X1_farCode_37 rfl rfl rfl) ?_
      refine gv_IS (k_X1_passName l w v6 g) cv_X1_61 sC_2 (Nat.le_of_ble_eq_true rfl) rfl rfl (Nat.le_of_ble_eq_true rfl) d_X1_farCode_38 rfl (fun x8 => ?_)
      refine gg_st (go_istore_n 2 d_X1_farCode_41 rfl (by decide) (L' := [some (.ref (2)), none, some (.int x8.1), some (.int v7)]) rfl rfl) ?_
      refine gg_st (go_iinc 3 d_X1_farCode_42 rfl (v := v7 + (1 : Int32)) (by rw [ci_1]) (by decide) (L' := [some (.ref (2)), none, some (.int x8.1), some (.int (v7 + (1 : Int32)))]) rfl rfl) ?_
      refine gg_st (go_goto (pc' := 23) d_X1_farCode_45 (by decide)) ?_
      exact ih x8.1 (v7 + (1 : Int32)) x8.2
    · refine gg_st (go_fg [none, none, some (.int v6), none] ⟨rfl, trivial⟩) ?_
      exact gg_end rfl
    refine gg_brs (br_icmp_ge (tgt := 48) (pc' := 29) d_X1_farCode_26 (by decide) rfl) (fun h11 => ?_) (fun h11 => ?_)
    · refine gg_st (go_iload_n 2 d_X1_farCode_29 rfl rfl rfl) ?_
      refine gg_st (go_sI (k_X1_isStanding l w v6 g) cs_X1_57 (Nat.le_of_ble_eq_true rfl) rfl rfl (Nat.le_of_ble_eq_true rfl) d_X1_farCode_30 rfl) ?_
      refine gg_brs (br_if_eq (tgt := 48) (pc' := 36) d_X1_farCode_33 (by decide) rfl) (fun h12 => ?_) (fun h12 => ?_)
      · exact gg_eq (if_neg (fun z => (fun z => z h12) z.2)) hB10
      · exact gg_eq (if_pos ⟨h11, h12⟩) hA9
    · exact gg_eq (if_neg (fun z => h11 z.1)) hB10
set_option maxRecDepth 20000 in
theorem k_X1_farCode (l : Launch) (w : Wo) (F : Nat) (p1 : Int32) (σ : St) : K l w shC m_X1_farCode 2 [.ref (2), .int p1] σ (f_X1_farCode F p1 σ) (rIS) := by
  refine k_of (L := [some (.ref (2)), some (.int p1), none, none]) (plainFor_of_name (by decide +kernel)) 2 rfl (Nat.le_of_ble_eq_true rfl) ?_
  unfold f_X1_farCode
  refine gg_st (go_iload_n 1 d_X1_farCode_0 rfl rfl rfl) ?_
  refine gg_st (go_sipush d_X1_farCode_1 cs_1728 rfl) ?_
  refine gs_I (k_X11_isInside l w p1 (1728 : Int32) σ) cs_X1_45 (Nat.le_of_ble_eq_true rfl) rfl rfl (Nat.le_of_ble_eq_true rfl) d_X1_farCode_4 rfl (fun x1 => ?_)
  refine gg_bind 20 (fun (t2 : Int32) => [some (.ref (2)), none, none, none]) (fun (t2 : Int32) => [.int t2]) (fun (t2 : Int32) => σ) ?_ (fun t2 => ?_)
  · refine gg_br (br_if_eq (tgt := 19) (pc' := 10) d_X1_farCode_7 (by decide) rfl) (fun h4 => ?_) (fun h4 => ?_)
    · refine gg_st (go_iconst d_X1_farCode_19 ci_m1 rfl) ?_
      refine gg_st (go_fg [some (.ref (2)), none, none, none] ⟨rfl, trivial⟩) ?_
      exact gg_end rfl
    · refine gg_st (go_aload_n 0 d_X1_farCode_10 rfl rfl rfl) ?_
      refine gg_st (go_getR (j := 0) cf1 sC_2 rfl (by decide) fl_X1_11 d_X1_farCode_11 rfl) ?_
      refine gg_st (go_iload_n 1 d_X1_farCode_14 rfl rfl rfl) ?_
      refine gg_gd (fun h5 => ?_)
      refine gg_st (go_iald sC_3 h5 d_X1_farCode_15 rfl) ?_
      refine gg_st (go_goto (pc' := 20) d_X1_farCode_16 (by decide)) ?_
      refine gg_st (go_fg [some (.ref (2)), none, none, none] ⟨rfl, trivial⟩) ?_
      exact gg_end rfl
  · refine gg_st (go_istore_n 2 d_X1_farCode_20 rfl (by decide) (L' := [some (.ref (2)), none, some (.int t2), none]) rfl rfl) ?_
    refine gg_st (go_iconst d_X1_farCode_21 ci_0 rfl) ?_
    refine gg_st (go_istore_n 3 d_X1_farCode_22 rfl (by decide) (L' := [some (.ref (2)), none, some (.int t2), some (.int (0 : Int32))]) rfl rfl) ?_
    refine gg_bind 48 (fun (t13 : Int32 × St) => [none, none, some (.int t13.1), none]) (fun (t13 : Int32 × St) => []) (fun (t13 : Int32 × St) => t13.2) (g_f_X1_farCode_L23 l w F F t2 (0 : Int32) σ) (fun t13 => ?_)
    refine gg_st (go_iload_n 2 d_X1_farCode_48 rfl rfl rfl) ?_
    refine gg_st (go_sipush d_X1_farCode_49 cs_1720 rfl) ?_
    refine gg_br (br_icmp_lt (tgt := 66) (pc' := 55) d_X1_farCode_52 (by decide) rfl) (fun h14 => ?_) (fun h14 => ?_)
    · refine gg_st (go_iload_n 2 d_X1_farCode_55 rfl rfl rfl) ?_
      refine gg_st (go_sipush d_X1_farCode_56 cs_1720 rfl) ?_
      refine gg_st (go_isub d_X1_farCode_59 rfl) ?_
      refine gs_I (k_X11_endCode l w (t13.1 - (1720 : Int32)) t13.2) cs_X1_64 (Nat.le_of_ble_eq_true rfl) rfl rfl (Nat.le_of_ble_eq_true rfl) d_X1_farCode_60 rfl (fun x15 => ?_)
      refine gg_st (go_goto (pc' := 67) d_X1_farCode_63 (by decide)) ?_
      exact gg_iret rfl d_X1_farCode_67 rfl
    · refine gg_st (go_iload_n 2 d_X1_farCode_66 rfl rfl rfl) ?_
      exact gg_iret rfl d_X1_farCode_67 rfl
