def f_X8_isFull (σ : St) : Int32 :=
  if (60 : Int32) ≤ (σ.1 (19) 7) then (
    (1 : Int32))
  else (
    (0 : Int32))
set_option maxRecDepth 20000 in
theorem k_X8_isFull (l : Launch) (w : Wo) (σ : St) : K l w shC m_X8_isFull 1 [.ref (19)] σ (some (f_X8_isFull σ)) (rI σ) := by
  refine k_of (L := [some (.ref (19))]) (plainFor_of_name (by decide +kernel)) 0 rfl (Nat.le_of_ble_eq_true rfl) ?_
  unfold f_X8_isFull
  refine gg_st (go_aload_n 0 d_X8_isFull_0 rfl rfl rfl) ?_
  refine gg_st (go_getI (j := 7) cf8 sC_19 rfl (by decide) fl_X8_39 d_X8_isFull_1 rfl) ?_
  refine gg_st (go_bipush d_X8_isFull_4 cb_60 rfl) ?_
  refine gg_brv (f := fun z => some z) (br_icmp_lt (tgt := 13) (pc' := 9) d_X8_isFull_6 (by decide) rfl) (fun h1 => ?_) (fun h1 => ?_)
  · refine gg_st (go_iconst d_X8_isFull_9 ci_1 rfl) ?_
    refine gg_st (go_goto (pc' := 14) d_X8_isFull_10 (by decide)) ?_
    exact gg_zret (Or.inr rfl) rfl d_X8_isFull_14 rfl
  · refine gg_st (go_iconst d_X8_isFull_13 ci_0 rfl) ?_
    exact gg_zret (Or.inl rfl) rfl d_X8_isFull_14 rfl
def f_X8_add (p1 : Int32) (p2 : Int32) (σ : St) : Option (Int32 × St) :=
  Option.bind (some (f_X8_isFull σ)) fun x1 =>
  if (x1 = 0) ∧ ((¬ ((f_X11_isInside p1 (16 : Int32)) = 0)) ∧ (¬ ((f_X11_isInside p2 (16 : Int32)) = 0))) then (
    Option.bind (some (σ.1 (19) 7)) fun x2 =>
    if inb ((p1 * (16 : Int32)) + p2) 256 then (
      Option.bind (some (seti σ (20) (ix ((p1 * (16 : Int32)) + p2)) x2)) fun s4 =>
      if inb ((p2 * (16 : Int32)) + p1) 256 then (
        Option.bind (some (seti s4 (20) (ix ((p2 * (16 : Int32)) + p1)) x2)) fun s6 =>
        if inb x2 60 then (
          Option.bind (some (seti s6 (21) (ix x2) p1)) fun s8 =>
          if inb x2 60 then (
            Option.bind (some (seti s8 (22) (ix x2) (0 : Int32))) fun s10 =>
            if inb x2 60 then (
              Option.bind (some (seti s10 (23) (ix x2) (0 : Int32))) fun s12 =>
              Option.bind (some (seti s12 (19) 7 ((s12.1 (19) 7) + (1 : Int32)))) fun s13 =>
              some (x2, s13))
            else none)
          else none)
        else none)
      else none)
    else none)
  else (
    some ((-1 : Int32), σ))
set_option maxRecDepth 20000 in
theorem k_X8_add (l : Launch) (w : Wo) (p1 : Int32) (p2 : Int32) (σ : St) : K l w shC m_X8_add 2 [.ref (19), .int p1, .int p2] σ (f_X8_add p1 p2 σ) (rIS) := by
  refine k_of (L := [some (.ref (19)), some (.int p1), some (.int p2), none]) (plainFor_of_name (by decide +kernel)) 1 rfl (Nat.le_of_ble_eq_true rfl) ?_
  unfold f_X8_add
  refine gg_st (go_aload_n 0 d_X8_add_0 rfl rfl rfl) ?_
  refine gv_I (k_X8_isFull l w  σ) cv_X8_47 sC_19 (Nat.le_of_ble_eq_true rfl) rfl rfl (Nat.le_of_ble_eq_true rfl) d_X8_add_1 rfl (fun x1 => ?_)
  refine gg_two (c := (x1 = 0) ∧ ((¬ ((f_X11_isInside p1 (16 : Int32)) = 0)) ∧ (¬ ((f_X11_isInside p2 (16 : Int32)) = 0)))) (pA := 27) (pB := 25) (LL := [some (.ref (19)), some (.int p1), some (.int p2), none]) (ss := []) ?_ ?_ (fun hA14 hB15 => ?_)
  · refine gg_st (go_aload_n 0 d_X8_add_27 rfl rfl rfl) ?_
    refine gg_st (go_getI (j := 7) cf8 sC_19 rfl (by decide) fl_X8_39 d_X8_add_28 rfl) ?_
    refine gg_nm (fun _ => [some (.ref (19)), some (.int p1), some (.int p2), none]) (fun (x2 : Int32) => [.int x2]) (fun x2 => ?_)
    refine gg_st (go_istore_n 3 d_X8_add_31 rfl (by decide) (L' := [some (.ref (19)), some (.int p1), some (.int p2), some (.int x2)]) rfl rfl) ?_
    refine gg_st (go_aload_n 0 d_X8_add_32 rfl rfl rfl) ?_
    refine gg_st (go_getR (j := 0) cf8 sC_19 rfl (by decide) fl_X8_9 d_X8_add_33 rfl) ?_
    refine gg_st (go_iload_n 1 d_X8_add_36 rfl rfl rfl) ?_
    refine gg_st (go_bipush d_X8_add_37 cb_16 rfl) ?_
    refine gg_st (go_imul d_X8_add_39 rfl) ?_
    refine gg_st (go_iload_n 2 d_X8_add_40 rfl rfl rfl) ?_
    refine gg_st (go_iadd d_X8_add_41 rfl) ?_
    refine gg_st (go_iload_n 3 d_X8_add_42 rfl rfl rfl) ?_
    refine gg_gd (fun h3 => ?_)
    refine gg_st (go_iast sC_20 h3 d_X8_add_43 rfl) ?_
    refine gg_som (fun s4 => ?_)
    refine gg_st (go_aload_n 0 d_X8_add_44 rfl rfl rfl) ?_
    refine gg_st (go_getR (j := 0) cf8 sC_19 rfl (by decide) fl_X8_9 d_X8_add_45 rfl) ?_
    refine gg_st (go_iload_n 2 d_X8_add_48 rfl rfl rfl) ?_
    refine gg_st (go_bipush d_X8_add_49 cb_16 rfl) ?_
    refine gg_st (go_imul d_X8_add_51 rfl) ?_
    refine gg_st (go_iload_n 1 d_X8_add_52 rfl rfl rfl) ?_
    refine gg_st (go_iadd d_X8_add_53 rfl) ?_
    refine gg_st (go_iload_n 3 d_X8_add_54 rfl rfl rfl) ?_
    refine gg_gd (fun h5 => ?_)
    refine gg_st (go_iast sC_20 h5 d_X8_add_55 rfl) ?_
    refine gg_som (fun s6 => ?_)
    refine gg_st (go_aload_n 0 d_X8_add_56 rfl rfl rfl) ?_
    refine gg_st (go_getR (j := 1) cf8 sC_19 rfl (by decide) fl_X8_15 d_X8_add_57 rfl) ?_
    refine gg_st (go_iload_n 3 d_X8_add_60 rfl rfl rfl) ?_
    refine gg_st (go_iload_n 1 d_X8_add_61 rfl rfl rfl) ?_
    refine gg_gd (fun h7 => ?_)
    refine gg_st (go_iast sC_21 h7 d_X8_add_62 rfl) ?_
    refine gg_som (fun s8 => ?_)
    refine gg_st (go_aload_n 0 d_X8_add_63 rfl rfl rfl) ?_
    refine gg_st (go_getR (j := 2) cf8 sC_19 rfl (by decide) fl_X8_18 d_X8_add_64 rfl) ?_
    refine gg_st (go_iload_n 3 d_X8_add_67 rfl rfl rfl) ?_
    refine gg_st (go_iconst d_X8_add_68 ci_0 rfl) ?_
    refine gg_gd (fun h9 => ?_)
    refine gg_st (go_iast sC_22 h9 d_X8_add_69 rfl) ?_
    refine gg_som (fun s10 => ?_)
    refine gg_st (go_aload_n 0 d_X8_add_70 rfl rfl rfl) ?_
    refine gg_st (go_getR (j := 3) cf8 sC_19 rfl (by decide) fl_X8_21 d_X8_add_71 rfl) ?_
    refine gg_st (go_iload_n 3 d_X8_add_74 rfl rfl rfl) ?_
    refine gg_st (go_iconst d_X8_add_75 ci_0 rfl) ?_
    refine gg_gd (fun h11 => ?_)
    refine gg_st (go_iast sC_23 h11 d_X8_add_76 rfl) ?_
    refine gg_som (fun s12 => ?_)
    refine gg_st (go_aload_n 0 d_X8_add_77 rfl rfl rfl) ?_
    refine gg_st (go_dup d_X8_add_78 rfl rfl) ?_
    refine gg_st (go_getI (j := 7) cf8 sC_19 rfl (by decide) fl_X8_39 d_X8_add_79 rfl) ?_
    refine gg_st (go_iconst d_X8_add_82 ci_1 rfl) ?_
    refine gg_st (go_iadd d_X8_add_83 rfl) ?_
    refine gg_st (go_putI (j := 7) cf8 sC_19 rfl (by decide) rfl rfl fl_X8_39 d_X8_add_84 rfl) ?_
    refine gg_som (fun s13 => ?_)
    refine gg_st (go_iload_n 3 d_X8_add_87 rfl rfl rfl) ?_
    exact gg_iret rfl d_X8_add_88 rfl
  · refine gg_st (go_iconst d_X8_add_25 ci_m1 rfl) ?_
    exact gg_iret rfl d_X8_add_26 rfl
  refine gg_brs (br_if_ne (tgt := 25) (pc' := 7) d_X8_add_4 (by decide) rfl) (fun h16 => ?_) (fun h16 => ?_)
  · refine gg_st (go_iload_n 1 d_X8_add_7 rfl rfl rfl) ?_
    refine gg_st (go_bipush d_X8_add_8 cb_16 rfl) ?_
    refine gg_st (go_sI (k_X11_isInside l w p1 (16 : Int32) σ) cs_X8_43 (Nat.le_of_ble_eq_true rfl) rfl rfl (Nat.le_of_ble_eq_true rfl) d_X8_add_10 rfl) ?_
    refine gg_brs (br_if_eq (tgt := 25) (pc' := 16) d_X8_add_13 (by decide) rfl) (fun h17 => ?_) (fun h17 => ?_)
    · exact gg_eq (if_neg (fun z => (fun z => (fun z => z h17) z.1) z.2)) hB15
    · refine gg_st (go_iload_n 2 d_X8_add_16 rfl rfl rfl) ?_
      refine gg_st (go_bipush d_X8_add_17 cb_16 rfl) ?_
      refine gg_st (go_sI (k_X11_isInside l w p2 (16 : Int32) σ) cs_X8_43 (Nat.le_of_ble_eq_true rfl) rfl rfl (Nat.le_of_ble_eq_true rfl) d_X8_add_19 rfl) ?_
      refine gg_brs (br_if_ne (tgt := 27) (pc' := 25) d_X8_add_22 (by decide) rfl) (fun h18 => ?_) (fun h18 => ?_)
      · exact gg_eq (if_neg (fun z => (fun z => (fun z => z h18) z.2) z.2)) hB15
      · exact gg_eq (if_pos ⟨h16, ⟨h17, h18⟩⟩) hA14
  · exact gg_eq (if_neg (fun z => h16 z.1)) hB15
def f_X6_endRule (F : Nat) (σ : St) : Option (St) :=
  Option.bind (some (σ.1 (8) (ix (0 : Int32)))) fun x1 =>
  Option.bind (some (σ.1 (8) (ix (1 : Int32)))) fun x2 =>
  if (σ.1 (9) 7) = (59 : Int32) then (
    Option.bind (f_X8_ruleFor (19) x1 x2 σ) fun x4 =>
    Option.bind (some (fun (t5 : St) =>
      Option.bind (f_X6_refuse (6 : Int32) t5) fun s7 =>
      some s7)) fun jp6 =>
    if x4 = (-1 : Int32) then (
      Option.bind (f_X1_hasNameStanding F (1 : Int32) (1 : Int32) σ) fun x9 =>
      if x9 = 0 then (
        Option.bind (f_X1_hasNameStanding F (3 : Int32) (4000 : Int32) σ) fun x11 =>
        if x11 = 0 then (
          Option.bind (f_X6_agentsFit F σ) fun x13 =>
          Option.bind (some (fun (t14 : St) =>
            Option.bind (f_X6_refuse (7 : Int32) t14) fun s16 =>
            some s16)) fun jp15 =>
          if x13.1 = 0 then (
            jp15 x13.2)
          else (
            Option.bind (f_X6_slotsFit F x13.2) fun x18 =>
            if x18.1 = 0 then (
              jp15 x18.2)
            else (
              Option.bind (f_X8_add x1 x2 x18.2) fun x20 =>
              Option.bind (f_X6_storeRule F x20.1 x20.2) fun s21 =>
              Option.bind (f_X9_advance s21) fun s22 =>
              some s22)))
        else (
          jp6 σ))
      else (
        jp6 σ))
    else (
      jp6 σ))
  else (
    Option.bind (f_X6_refuseToken σ) fun s23 =>
    some s23)
set_option maxRecDepth 20000 in
theorem k_X6_endRule (l : Launch) (w : Wo) (F : Nat) (σ : St) : K l w shC m_X6_endRule 5 [.ref (1)] σ (f_X6_endRule F σ) (rV) := by
  refine k_of (L := [some (.ref (1)), none, none]) (plainFor_of_name (by decide +kernel)) 2 rfl (Nat.le_of_ble_eq_true rfl) ?_
  unfold f_X6_endRule
  refine gg_st (go_aload_n 0 d_X6_endRule_0 rfl rfl rfl) ?_
  refine gg_st (go_getR (j := 1) cf6 sC_1 rfl (by decide) fl_X6_18 d_X6_endRule_1 rfl) ?_
  refine gg_st (go_iconst d_X6_endRule_4 ci_0 rfl) ?_
  refine gg_st (go_iald sC_8 (by decide) d_X6_endRule_5 rfl) ?_
  refine gg_nm (fun _ => [some (.ref (1)), none, none]) (fun (x1 : Int32) => [.int x1]) (fun x1 => ?_)
  refine gg_st (go_istore_n 1 d_X6_endRule_6 rfl (by decide) (L' := [some (.ref (1)), some (.int x1), none]) rfl rfl) ?_
  refine gg_st (go_aload_n 0 d_X6_endRule_7 rfl rfl rfl) ?_
  refine gg_st (go_getR (j := 1) cf6 sC_1 rfl (by decide) fl_X6_18 d_X6_endRule_8 rfl) ?_
  refine gg_st (go_iconst d_X6_endRule_11 ci_1 rfl) ?_
  refine gg_st (go_iald sC_8 (by decide) d_X6_endRule_12 rfl) ?_
  refine gg_nm (fun _ => [some (.ref (1)), some (.int x1), none]) (fun (x2 : Int32) => [.int x2]) (fun x2 => ?_)
  refine gg_st (go_istore_n 2 d_X6_endRule_13 rfl (by decide) (L' := [some (.ref (1)), some (.int x1), some (.int x2)]) rfl rfl) ?_
  refine gg_st (go_aload_n 0 d_X6_endRule_14 rfl rfl rfl) ?_
  refine gg_st (go_getR (j := 5) cf6 sC_1 rfl (by decide) fl_X6_25 d_X6_endRule_15 rfl) ?_
  refine gg_st (go_getI (j := 7) cf9 sC_9 rfl (by decide) fl_X6_53 d_X6_endRule_18 rfl) ?_
  refine gg_st (go_bipush d_X6_endRule_21 cb_59 rfl) ?_
  refine gg_br (br_icmp_eq (tgt := 33) (pc' := 26) d_X6_endRule_23 (by decide) rfl) (fun h3 => ?_) (fun h3 => ?_)
  · refine gg_st (go_aload_n 0 d_X6_endRule_33 rfl rfl rfl) ?_
    refine gg_st (go_getR (j := 6) cf6 sC_1 rfl (by decide) fl_X6_32 d_X6_endRule_34 rfl) ?_
    refine gg_st (go_getR (j := 1) cf0 sC_14 rfl (by decide) fl_X6_129 d_X6_endRule_37 rfl) ?_
    refine gg_st (go_iload_n 1 d_X6_endRule_40 rfl rfl rfl) ?_
    refine gg_st (go_iload_n 2 d_X6_endRule_41 rfl rfl rfl) ?_
    refine gv_I (k_X8_ruleFor l w (show 19 ∈ st19_69 by decide) x1 x2 σ) cv_X6_195 sC_19 (Nat.le_of_ble_eq_true rfl) rfl rfl (Nat.le_of_ble_eq_true rfl) d_X6_endRule_42 rfl (fun x4 => ?_)
    refine gg_st (go_iconst d_X6_endRule_45 ci_m1 rfl) ?_
    refine gg_jp 75 (fun (t5 : St) => [some (.ref (1)), none, none]) (fun (t5 : St) => []) (fun (t5 : St) => t5) (fun t5 => ?_) (fun jp6 hjp6 => ?_)
    · refine gg_st (go_aload_n 0 d_X6_endRule_75 rfl rfl rfl) ?_
      refine gg_st (go_bipush d_X6_endRule_76 cb_6 rfl) ?_
      refine gv_V (k_X6_refuse l w (6 : Int32) t5) cv_X6_101 sC_1 (Nat.le_of_ble_eq_true rfl) rfl rfl (Nat.le_of_ble_eq_true rfl) d_X6_endRule_78 rfl (fun s7 => ?_)
      refine gg_st (go_goto (pc' := 130) d_X6_endRule_81 (by decide)) ?_
      exact gg_vret rfl d_X6_endRule_130 rfl
    refine gg_br (br_icmp_ne (tgt := 75) (pc' := 49) d_X6_endRule_46 (by decide) rfl) (fun h8 => ?_) (fun h8 => ?_)
    · refine gg_st (go_aload_n 0 d_X6_endRule_49 rfl rfl rfl) ?_
      refine gg_st (go_getR (j := 0) cf6 sC_1 rfl (by decide) fl_X6_12 d_X6_endRule_50 rfl) ?_
      refine gg_st (go_iconst d_X6_endRule_53 ci_1 rfl) ?_
      refine gg_st (go_iconst d_X6_endRule_54 ci_1 rfl) ?_
      refine gv_I (k_X1_hasNameStanding l w F (1 : Int32) (1 : Int32) σ) cv_X6_198 sC_2 (Nat.le_of_ble_eq_true rfl) rfl rfl (Nat.le_of_ble_eq_true rfl) d_X6_endRule_55 rfl (fun x9 => ?_)
      refine gg_br (br_if_ne (tgt := 75) (pc' := 61) d_X6_endRule_58 (by decide) rfl) (fun h10 => ?_) (fun h10 => ?_)
      · refine gg_st (go_aload_n 0 d_X6_endRule_61 rfl rfl rfl) ?_
        refine gg_st (go_getR (j := 0) cf6 sC_1 rfl (by decide) fl_X6_12 d_X6_endRule_62 rfl) ?_
        refine gg_st (go_iconst d_X6_endRule_65 ci_3 rfl) ?_
        refine gg_st (go_sipush d_X6_endRule_66 cs_4000 rfl) ?_
        refine gv_I (k_X1_hasNameStanding l w F (3 : Int32) (4000 : Int32) σ) cv_X6_198 sC_2 (Nat.le_of_ble_eq_true rfl) rfl rfl (Nat.le_of_ble_eq_true rfl) d_X6_endRule_69 rfl (fun x11 => ?_)
        refine gg_br (br_if_eq (tgt := 84) (pc' := 75) d_X6_endRule_72 (by decide) rfl) (fun h12 => ?_) (fun h12 => ?_)
        · refine gg_st (go_aload_n 0 d_X6_endRule_84 rfl rfl rfl) ?_
          refine gv_IS (k_X6_agentsFit l w F  σ) cv_X6_202 sC_1 (Nat.le_of_ble_eq_true rfl) rfl rfl (Nat.le_of_ble_eq_true rfl) d_X6_endRule_85 rfl (fun x13 => ?_)
          refine gg_jp 98 (fun (t14 : St) => [some (.ref (1)), none, none]) (fun (t14 : St) => []) (fun (t14 : St) => t14) (fun t14 => ?_) (fun jp15 hjp15 => ?_)
          · refine gg_st (go_aload_n 0 d_X6_endRule_98 rfl rfl rfl) ?_
            refine gg_st (go_bipush d_X6_endRule_99 cb_7 rfl) ?_
            refine gv_V (k_X6_refuse l w (7 : Int32) t14) cv_X6_101 sC_1 (Nat.le_of_ble_eq_true rfl) rfl rfl (Nat.le_of_ble_eq_true rfl) d_X6_endRule_101 rfl (fun s16 => ?_)
            refine gg_st (go_goto (pc' := 130) d_X6_endRule_104 (by decide)) ?_
            exact gg_vret rfl d_X6_endRule_130 rfl
          refine gg_br (br_if_eq (tgt := 98) (pc' := 91) d_X6_endRule_88 (by decide) rfl) (fun h17 => ?_) (fun h17 => ?_)
          · refine gg_st (go_fg [some (.ref (1)), none, none] ⟨rfl, trivial⟩) ?_
            exact hjp15 x13.2
          · refine gg_st (go_aload_n 0 d_X6_endRule_91 rfl rfl rfl) ?_
            refine gv_IS (k_X6_slotsFit l w F  x13.2) cv_X6_205 sC_1 (Nat.le_of_ble_eq_true rfl) rfl rfl (Nat.le_of_ble_eq_true rfl) d_X6_endRule_92 rfl (fun x18 => ?_)
            refine gg_br (br_if_ne (tgt := 107) (pc' := 98) d_X6_endRule_95 (by decide) rfl) (fun h19 => ?_) (fun h19 => ?_)
            · refine gg_st (go_fg [some (.ref (1)), none, none] ⟨rfl, trivial⟩) ?_
              exact hjp15 x18.2
            · refine gg_st (go_aload_n 0 d_X6_endRule_107 rfl rfl rfl) ?_
              refine gg_st (go_aload_n 0 d_X6_endRule_108 rfl rfl rfl) ?_
              refine gg_st (go_getR (j := 6) cf6 sC_1 rfl (by decide) fl_X6_32 d_X6_endRule_109 rfl) ?_
              refine gg_st (go_getR (j := 1) cf0 sC_14 rfl (by decide) fl_X6_129 d_X6_endRule_112 rfl) ?_
              refine gg_st (go_iload_n 1 d_X6_endRule_115 rfl rfl rfl) ?_
              refine gg_st (go_iload_n 2 d_X6_endRule_116 rfl rfl rfl) ?_
              refine gv_IS (k_X8_add l w x1 x2 x18.2) cv_X6_208 sC_19 (Nat.le_of_ble_eq_true rfl) rfl rfl (Nat.le_of_ble_eq_true rfl) d_X6_endRule_117 rfl (fun x20 => ?_)
              refine gv_V (k_X6_storeRule l w F x20.1 x20.2) cv_X6_210 sC_1 (Nat.le_of_ble_eq_true rfl) rfl rfl (Nat.le_of_ble_eq_true rfl) d_X6_endRule_120 rfl (fun s21 => ?_)
              refine gg_st (go_aload_n 0 d_X6_endRule_123 rfl rfl rfl) ?_
              refine gg_st (go_getR (j := 5) cf6 sC_1 rfl (by decide) fl_X6_25 d_X6_endRule_124 rfl) ?_
              refine gv_V (k_X9_advance l w  s21) cv_X6_88 sC_9 (Nat.le_of_ble_eq_true rfl) rfl rfl (Nat.le_of_ble_eq_true rfl) d_X6_endRule_127 rfl (fun s22 => ?_)
              exact gg_vret rfl d_X6_endRule_130 rfl
        · refine gg_st (go_fg [some (.ref (1)), none, none] ⟨rfl, trivial⟩) ?_
          exact hjp6 σ
      · refine gg_st (go_fg [some (.ref (1)), none, none] ⟨rfl, trivial⟩) ?_
        exact hjp6 σ
    · refine gg_st (go_fg [some (.ref (1)), none, none] ⟨rfl, trivial⟩) ?_
      exact hjp6 σ
  · refine gg_st (go_aload_n 0 d_X6_endRule_26 rfl rfl rfl) ?_
    refine gv_V (k_X6_refuseToken l w  σ) cv_X6_75 sC_1 (Nat.le_of_ble_eq_true rfl) rfl rfl (Nat.le_of_ble_eq_true rfl) d_X6_endRule_27 rfl (fun s23 => ?_)
    refine gg_st (go_goto (pc' := 130) d_X6_endRule_30 (by decide)) ?_
    exact gg_vret rfl d_X6_endRule_130 rfl
def f_X6_readSideNames_L2 (F : Nat) (c1 : Int32) (k0 : Int32 × St → Option (Int32 × St)) (k1 : Int32 × St → Option (Int32 × St)) : Nat → Int32 → St → Option (Int32 × St)
  | 0, _, _ => none
  | n + 1, v1, g =>
    Option.bind (f_X9_advance g) fun s2 =>
    if (s2.1 (9) 7) = (2 : Int32) then (
      Option.bind (f_X6_readName F (0 : Int32) s2) fun x4 =>
      Option.bind (
        if v1 < (4 : Int32) then (
          Option.bind (some (f_X1_outerPoint ((c1 * (4 : Int32)) + v1))) fun x7 =>
          Option.bind (f_X1_join x7 x4.1 x4.2) fun s8 =>
          some s8)
        else (
          some x4.2)) fun t5 =>
      Option.bind (some (v1 + (1 : Int32))) fun x9 =>
      if ((t5.1 (1) 4) = 0) ∧ (((t5.1 (9) 7) = (44 : Int32)) ∧ (¬ ((4000 : Int32) ≤ x9))) then (
        f_X6_readSideNames_L2 F c1 k0 k1 n x9 t5)
      else (
        k0 (x9, t5)))
    else (
      k1 (v1, s2))
def f_X6_readSideNames (F : Nat) (p1 : Int32) (σ : St) : Option (Int32 × St) :=
  f_X6_readSideNames_L2 F p1
    (fun (t15 : Int32 × St) =>
      if (t15.2.1 (1) 4) = 0 then (
        Option.bind (f_X6_pass (41 : Int32) t15.2) fun s17 =>
        some (t15.1, s17))
      else (
        some (t15.1, t15.2)))
    (fun (t18 : Int32 × St) =>
      Option.bind (f_X6_refuseToken t18.2) fun s19 =>
      some (t18.1, s19)) F (0 : Int32) σ
set_option maxRecDepth 20000 in
theorem g_f_X6_readSideNames_L2 (l : Launch) (w : Wo) (F : Nat) (c1 : Int32) (k0 : Int32 × St → Option (Int32 × St)) (k1 : Int32 × St → Option (Int32 × St)) (hk0 : ∀ t, GG l w shC m_X6_readSideNames 4 82 [some (.ref (1)), none, some (.int t.1), none] [] t.2 (k0 t) (fun q => .inr ((rIS) q))) (hk1 : ∀ t, GG l w shC m_X6_readSideNames 4 20 [some (.ref (1)), none, some (.int t.1), none] [] t.2 (k1 t) (fun q => .inr ((rIS) q))) : ∀ (n : Nat) (v1 : Int32) (g : St), GG l w shC m_X6_readSideNames 4 2 [some (.ref (1)), some (.int c1), some (.int v1), none] [] g (f_X6_readSideNames_L2 F c1 k0 k1 n v1 g) (fun q => .inr ((rIS) q)) := by
  intro n
  induction n with
  | zero =>
    intro v1 g
    exact gg_none
  | succ n ih =>
    intro v1 g
    rw [f_X6_readSideNames_L2]
    refine gg_st (go_aload_n 0 d_X6_readSideNames_2 rfl rfl rfl) ?_
    refine gg_st (go_getR (j := 5) cf6 sC_1 rfl (by decide) fl_X6_25 d_X6_readSideNames_3 rfl) ?_
    refine gv_V (k_X9_advance l w  g) cv_X6_88 sC_9 (Nat.le_of_ble_eq_true rfl) rfl rfl (Nat.le_of_ble_eq_true rfl) d_X6_readSideNames_6 rfl (fun s2 => ?_)
    refine gg_st (go_aload_n 0 d_X6_readSideNames_9 rfl rfl rfl) ?_
    refine gg_st (go_getR (j := 5) cf6 sC_1 rfl (by decide) fl_X6_25 d_X6_readSideNames_10 rfl) ?_
    refine gg_st (go_getI (j := 7) cf9 sC_9 rfl (by decide) fl_X6_53 d_X6_readSideNames_13 rfl) ?_
    refine gg_st (go_iconst d_X6_readSideNames_16 ci_2 rfl) ?_
    refine gg_br (br_icmp_eq (tgt := 26) (pc' := 20) d_X6_readSideNames_17 (by decide) rfl) (fun h3 => ?_) (fun h3 => ?_)
    · refine gg_st (go_aload_n 0 d_X6_readSideNames_26 rfl rfl rfl) ?_
      refine gg_st (go_iconst d_X6_readSideNames_27 ci_0 rfl) ?_
      refine gv_IS (k_X6_readName l w F (0 : Int32) s2) cv_X6_157 sC_1 (Nat.le_of_ble_eq_true rfl) rfl rfl (Nat.le_of_ble_eq_true rfl) d_X6_readSideNames_28 rfl (fun x4 => ?_)
      refine gg_st (go_istore_n 3 d_X6_readSideNames_31 rfl (by decide) (L' := [some (.ref (1)), some (.int c1), some (.int v1), some (.int x4.1)]) rfl rfl) ?_
      refine gg_st (go_iload_n 2 d_X6_readSideNames_32 rfl rfl rfl) ?_
      refine gg_st (go_iconst d_X6_readSideNames_33 ci_4 rfl) ?_
      refine gg_bind 53 (fun (t5 : St) => [some (.ref (1)), some (.int c1), some (.int v1), none]) (fun (t5 : St) => []) (fun (t5 : St) => t5) ?_ (fun t5 => ?_)
      · refine gg_br (br_icmp_ge (tgt := 53) (pc' := 37) d_X6_readSideNames_34 (by decide) rfl) (fun h6 => ?_) (fun h6 => ?_)
        · refine gg_st (go_aload_n 0 d_X6_readSideNames_37 rfl rfl rfl) ?_
          refine gg_st (go_getR (j := 0) cf6 sC_1 rfl (by decide) fl_X6_12 d_X6_readSideNames_38 rfl) ?_
          refine gg_st (go_iload_n 1 d_X6_readSideNames_41 rfl rfl rfl) ?_
          refine gg_st (go_iconst d_X6_readSideNames_42 ci_4 rfl) ?_
          refine gg_st (go_imul d_X6_readSideNames_43 rfl) ?_
          refine gg_st (go_iload_n 2 d_X6_readSideNames_44 rfl rfl rfl) ?_
          refine gg_st (go_iadd d_X6_readSideNames_45 rfl) ?_
          refine gs_I (k_X1_outerPoint l w ((c1 * (4 : Int32)) + v1) x4.2) cs_X6_160 (Nat.le_of_ble_eq_true rfl) rfl rfl (Nat.le_of_ble_eq_true rfl) d_X6_readSideNames_46 rfl (fun x7 => ?_)
          refine gg_st (go_iload_n 3 d_X6_readSideNames_49 rfl rfl rfl) ?_
          refine gv_V (k_X1_join l w x7 x4.1 x4.2) cv_X6_163 sC_2 (Nat.le_of_ble_eq_true rfl) rfl rfl (Nat.le_of_ble_eq_true rfl) d_X6_readSideNames_50 rfl (fun s8 => ?_)
          refine gg_st (go_fg [some (.ref (1)), some (.int c1), some (.int v1), none] ⟨rfl, ⟨rfl, ⟨rfl, trivial⟩⟩⟩) ?_
          exact gg_end rfl
        · refine gg_st (go_fg [some (.ref (1)), some (.int c1), some (.int v1), none] ⟨rfl, ⟨rfl, ⟨rfl, trivial⟩⟩⟩) ?_
          exact gg_end rfl
      · refine gg_st (go_iinc 2 d_X6_readSideNames_53 rfl (v := v1 + (1 : Int32)) (by rw [ci_1]) (by decide) (L' := [some (.ref (1)), some (.int c1), some (.int (v1 + (1 : Int32))), none]) rfl rfl) ?_
        refine gg_nm (fun (x9 : Int32) => [some (.ref (1)), some (.int c1), some (.int x9), none]) (fun _ => []) (fun x9 => ?_)
        refine gg_st (go_aload_n 0 d_X6_readSideNames_56 rfl rfl rfl) ?_
        refine gg_st (go_getI (j := 4) cf6 sC_1 rfl (by decide) fl_X6_47 d_X6_readSideNames_57 rfl) ?_
        refine gg_two (c := ((t5.1 (1) 4) = 0) ∧ (((t5.1 (9) 7) = (44 : Int32)) ∧ (¬ ((4000 : Int32) ≤ x9)))) (pA := 2) (pB := 82) (LL := [some (.ref (1)), some (.int c1), some (.int x9), none]) (ss := []) ?_ ?_ (fun hA10 hB11 => ?_)
        · exact ih x9 t5
        · refine gg_st (go_fg [some (.ref (1)), none, some (.int x9), none] ⟨rfl, ⟨rfl, trivial⟩⟩) ?_
          exact hk0 (x9, t5)
        refine gg_brs (br_if_ne (tgt := 82) (pc' := 63) d_X6_readSideNames_60 (by decide) rfl) (fun h12 => ?_) (fun h12 => ?_)
        · refine gg_st (go_aload_n 0 d_X6_readSideNames_63 rfl rfl rfl) ?_
          refine gg_st (go_getR (j := 5) cf6 sC_1 rfl (by decide) fl_X6_25 d_X6_readSideNames_64 rfl) ?_
          refine gg_st (go_getI (j := 7) cf9 sC_9 rfl (by decide) fl_X6_53 d_X6_readSideNames_67 rfl) ?_
          refine gg_st (go_bipush d_X6_readSideNames_70 cb_44 rfl) ?_
          refine gg_brs (br_icmp_ne (tgt := 82) (pc' := 75) d_X6_readSideNames_72 (by decide) rfl) (fun h13 => ?_) (fun h13 => ?_)
          · refine gg_st (go_iload_n 2 d_X6_readSideNames_75 rfl rfl rfl) ?_
            refine gg_st (go_sipush d_X6_readSideNames_76 cs_4000 rfl) ?_
            refine gg_brs (br_icmp_lt (tgt := 2) (pc' := 82) d_X6_readSideNames_79 (by decide) rfl) (fun h14 => ?_) (fun h14 => ?_)
            · exact gg_eq (if_neg (fun z => (fun z => (fun z => z h14) z.2) z.2)) hB11
            · exact gg_eq (if_pos ⟨h12, ⟨h13, h14⟩⟩) hA10
          · exact gg_eq (if_neg (fun z => (fun z => h13 z.1) z.2)) hB11
        · exact gg_eq (if_neg (fun z => h12 z.1)) hB11
    · refine gg_st (go_fg [some (.ref (1)), none, some (.int v1), none] ⟨rfl, ⟨rfl, trivial⟩⟩) ?_
      exact hk1 (v1, s2)
set_option maxRecDepth 20000 in
theorem k_X6_readSideNames (l : Launch) (w : Wo) (F : Nat) (p1 : Int32) (σ : St) : K l w shC m_X6_readSideNames 4 [.ref (1), .int p1] σ (f_X6_readSideNames F p1 σ) (rIS) := by
  refine k_of (L := [some (.ref (1)), some (.int p1), none, none]) (plainFor_of_name (by decide +kernel)) 2 rfl (Nat.le_of_ble_eq_true rfl) ?_
  unfold f_X6_readSideNames
  refine gg_st (go_iconst d_X6_readSideNames_0 ci_0 rfl) ?_
  refine gg_st (go_istore_n 2 d_X6_readSideNames_1 rfl (by decide) (L' := [some (.ref (1)), some (.int p1), some (.int (0 : Int32)), none]) rfl rfl) ?_
  refine g_f_X6_readSideNames_L2 l w F p1 _ _ (fun t15 => ?_) (fun t18 => ?_) F (0 : Int32) σ
  · refine gg_st (go_aload_n 0 d_X6_readSideNames_82 rfl rfl rfl) ?_
    refine gg_st (go_getI (j := 4) cf6 sC_1 rfl (by decide) fl_X6_47 d_X6_readSideNames_83 rfl) ?_
    refine gg_br (br_if_ne (tgt := 95) (pc' := 89) d_X6_readSideNames_86 (by decide) rfl) (fun h16 => ?_) (fun h16 => ?_)
    · refine gg_st (go_aload_n 0 d_X6_readSideNames_89 rfl rfl rfl) ?_
      refine gg_st (go_bipush d_X6_readSideNames_90 cb_41 rfl) ?_
      refine gv_V (k_X6_pass l w (41 : Int32) t15.2) cv_X6_119 sC_1 (Nat.le_of_ble_eq_true rfl) rfl rfl (Nat.le_of_ble_eq_true rfl) d_X6_readSideNames_92 rfl (fun s17 => ?_)
      refine gg_st (go_iload_n 2 d_X6_readSideNames_95 rfl rfl rfl) ?_
      exact gg_iret rfl d_X6_readSideNames_96 rfl
    · refine gg_st (go_iload_n 2 d_X6_readSideNames_95 rfl rfl rfl) ?_
      exact gg_iret rfl d_X6_readSideNames_96 rfl
  · refine gg_st (go_aload_n 0 d_X6_readSideNames_20 rfl rfl rfl) ?_
    refine gv_V (k_X6_refuseToken l w  t18.2) cv_X6_75 sC_1 (Nat.le_of_ble_eq_true rfl) rfl rfl (Nat.le_of_ble_eq_true rfl) d_X6_readSideNames_21 rfl (fun s19 => ?_)
    refine gg_st (go_iload_n 2 d_X6_readSideNames_24 rfl rfl rfl) ?_
    exact gg_iret rfl d_X6_readSideNames_25 rfl
def f_X6_readSide (F : Nat) (p1 : Int32) (σ : St) : Option (St) :=
  Option.bind (
    if (σ.1 (9) 7) = (3 : Int32) then (
      Option.bind (f_X3_find F (σ.2 (9) 9) σ) fun x3 =>
      some x3)
    else (
      some (-1 : Int32))) fun t1 =>
  if (σ.1 (9) 7) = (3 : Int32) then (
    if t1 = (-1 : Int32) then (
      Option.bind (f_X6_refuse (3 : Int32) σ) fun s6 =>
      some s6)
    else (
      Option.bind (some (σ.1 (9) 8)) fun x7 =>
      Option.bind (
        if p1 = 0 then (
          some (0 : Int32))
        else (
          some (1 : Int32))) fun t8 =>
      if inb t8 2 then (
        Option.bind (some (seti σ (8) (ix t8) t1)) fun s11 =>
        Option.bind (f_X9_advance s11) fun s12 =>
        Option.bind (
          if (s12.1 (9) 7) = (40 : Int32) then (
            Option.bind (f_X6_readSideNames F p1 s12) fun x15 =>
            some (x15.1, x15.2))
          else (
            some ((0 : Int32), s12))) fun t13 =>
        Option.bind (f_X6_askBracket t1 t13.1 x7 t13.2) fun s16 =>
        some s16)
      else none))
  else (
    Option.bind (f_X6_refuseToken σ) fun s17 =>
    some s17)
set_option maxRecDepth 20000 in
theorem k_X6_readSide (l : Launch) (w : Wo) (F : Nat) (p1 : Int32) (σ : St) : K l w shC m_X6_readSide 5 [.ref (1), .int p1] σ (f_X6_readSide F p1 σ) (rV) := by
  refine k_of (L := [some (.ref (1)), some (.int p1), none, none, none]) (plainFor_of_name (by decide +kernel)) 3 rfl (Nat.le_of_ble_eq_true rfl) ?_
  unfold f_X6_readSide
  refine gg_st (go_aload_n 0 d_X6_readSide_0 rfl rfl rfl) ?_
  refine gg_st (go_getR (j := 5) cf6 sC_1 rfl (by decide) fl_X6_25 d_X6_readSide_1 rfl) ?_
  refine gg_st (go_getI (j := 7) cf9 sC_9 rfl (by decide) fl_X6_53 d_X6_readSide_4 rfl) ?_
  refine gg_st (go_iconst d_X6_readSide_7 ci_3 rfl) ?_
  refine gg_bind 32 (fun (t1 : Int32) => [some (.ref (1)), some (.int p1), none, none, none]) (fun (t1 : Int32) => [.int t1]) (fun (t1 : Int32) => σ) ?_ (fun t1 => ?_)
  · refine gg_br (br_icmp_ne (tgt := 31) (pc' := 11) d_X6_readSide_8 (by decide) rfl) (fun h2 => ?_) (fun h2 => ?_)
    · refine gg_st (go_aload_n 0 d_X6_readSide_11 rfl rfl rfl) ?_
      refine gg_st (go_getR (j := 6) cf6 sC_1 rfl (by decide) fl_X6_32 d_X6_readSide_12 rfl) ?_
      refine gg_st (go_getR (j := 0) cf0 sC_14 rfl (by decide) fl_X6_91 d_X6_readSide_15 rfl) ?_
      refine gg_st (go_aload_n 0 d_X6_readSide_18 rfl rfl rfl) ?_
      refine gg_st (go_getR (j := 5) cf6 sC_1 rfl (by decide) fl_X6_25 d_X6_readSide_19 rfl) ?_
      refine gg_st (go_getL (j := 9) cf9 sC_9 rfl (by decide) fl_X6_81 d_X6_readSide_22 rfl) ?_
      refine gv_I (k_X3_find l w F (σ.2 (9) 9) σ) cv_X6_95 sC_15 (Nat.le_of_ble_eq_true rfl) rfl rfl (Nat.le_of_ble_eq_true rfl) d_X6_readSide_25 rfl (fun x3 => ?_)
      refine gg_st (go_goto (pc' := 32) d_X6_readSide_28 (by decide)) ?_
      exact gg_end rfl
    · refine gg_st (go_iconst d_X6_readSide_31 ci_m1 rfl) ?_
      exact gg_end rfl
  · refine gg_st (go_istore_n 2 d_X6_readSide_32 rfl (by decide) (L' := [some (.ref (1)), some (.int p1), some (.int t1), none, none]) rfl rfl) ?_
    refine gg_st (go_aload_n 0 d_X6_readSide_33 rfl rfl rfl) ?_
    refine gg_st (go_getR (j := 5) cf6 sC_1 rfl (by decide) fl_X6_25 d_X6_readSide_34 rfl) ?_
    refine gg_st (go_getI (j := 7) cf9 sC_9 rfl (by decide) fl_X6_53 d_X6_readSide_37 rfl) ?_
    refine gg_st (go_iconst d_X6_readSide_40 ci_3 rfl) ?_
    refine gg_br (br_icmp_eq (tgt := 51) (pc' := 44) d_X6_readSide_41 (by decide) rfl) (fun h4 => ?_) (fun h4 => ?_)
    · refine gg_st (go_iload_n 2 d_X6_readSide_51 rfl rfl rfl) ?_
      refine gg_st (go_iconst d_X6_readSide_52 ci_m1 rfl) ?_
      refine gg_br (br_icmp_ne (tgt := 64) (pc' := 56) d_X6_readSide_53 (by decide) rfl) (fun h5 => ?_) (fun h5 => ?_)
      · refine gg_st (go_aload_n 0 d_X6_readSide_56 rfl rfl rfl) ?_
        refine gg_st (go_iconst d_X6_readSide_57 ci_3 rfl) ?_
        refine gv_V (k_X6_refuse l w (3 : Int32) σ) cv_X6_101 sC_1 (Nat.le_of_ble_eq_true rfl) rfl rfl (Nat.le_of_ble_eq_true rfl) d_X6_readSide_58 rfl (fun s6 => ?_)
        refine gg_st (go_goto (pc' := 125) d_X6_readSide_61 (by decide)) ?_
        exact gg_vret rfl d_X6_readSide_125 rfl
      · refine gg_st (go_aload_n 0 d_X6_readSide_64 rfl rfl rfl) ?_
        refine gg_st (go_getR (j := 5) cf6 sC_1 rfl (by decide) fl_X6_25 d_X6_readSide_65 rfl) ?_
        refine gg_st (go_getI (j := 8) cf9 sC_9 rfl (by decide) fl_X6_85 d_X6_readSide_68 rfl) ?_
        refine gg_nm (fun _ => [some (.ref (1)), some (.int p1), some (.int t1), none, none]) (fun (x7 : Int32) => [.int x7]) (fun x7 => ?_)
        refine gg_st (go_istore_n 3 d_X6_readSide_71 rfl (by decide) (L' := [some (.ref (1)), some (.int p1), some (.int t1), some (.int x7), none]) rfl rfl) ?_
        refine gg_st (go_aload_n 0 d_X6_readSide_72 rfl rfl rfl) ?_
        refine gg_st (go_getR (j := 1) cf6 sC_1 rfl (by decide) fl_X6_18 d_X6_readSide_73 rfl) ?_
        refine gg_st (go_iload_n 1 d_X6_readSide_76 rfl rfl rfl) ?_
        refine gg_bind 85 (fun (t8 : Int32) => [some (.ref (1)), some (.int p1), some (.int t1), some (.int x7), none]) (fun (t8 : Int32) => [.int t8, .ref (8)]) (fun (t8 : Int32) => σ) ?_ (fun t8 => ?_)
        · refine gg_br (br_if_ne (tgt := 84) (pc' := 80) d_X6_readSide_77 (by decide) rfl) (fun h9 => ?_) (fun h9 => ?_)
          · refine gg_st (go_iconst d_X6_readSide_80 ci_0 rfl) ?_
            refine gg_st (go_goto (pc' := 85) d_X6_readSide_81 (by decide)) ?_
            exact gg_end rfl
          · refine gg_st (go_iconst d_X6_readSide_84 ci_1 rfl) ?_
            exact gg_end rfl
        · refine gg_st (go_iload_n 2 d_X6_readSide_85 rfl rfl rfl) ?_
          refine gg_gd (fun h10 => ?_)
          refine gg_st (go_iast sC_8 h10 d_X6_readSide_86 rfl) ?_
          refine gg_som (fun s11 => ?_)
          refine gg_st (go_aload_n 0 d_X6_readSide_87 rfl rfl rfl) ?_
          refine gg_st (go_getR (j := 5) cf6 sC_1 rfl (by decide) fl_X6_25 d_X6_readSide_88 rfl) ?_
          refine gv_V (k_X9_advance l w  s11) cv_X6_88 sC_9 (Nat.le_of_ble_eq_true rfl) rfl rfl (Nat.le_of_ble_eq_true rfl) d_X6_readSide_91 rfl (fun s12 => ?_)
          refine gg_st (go_aload_n 0 d_X6_readSide_94 rfl rfl rfl) ?_
          refine gg_st (go_getR (j := 5) cf6 sC_1 rfl (by decide) fl_X6_25 d_X6_readSide_95 rfl) ?_
          refine gg_st (go_getI (j := 7) cf9 sC_9 rfl (by decide) fl_X6_53 d_X6_readSide_98 rfl) ?_
          refine gg_st (go_bipush d_X6_readSide_101 cb_40 rfl) ?_
          refine gg_bind 115 (fun (t13 : Int32 × St) => [some (.ref (1)), none, some (.int t1), some (.int x7), none]) (fun (t13 : Int32 × St) => [.int t13.1]) (fun (t13 : Int32 × St) => t13.2) ?_ (fun t13 => ?_)
          · refine gg_br (br_icmp_ne (tgt := 114) (pc' := 106) d_X6_readSide_103 (by decide) rfl) (fun h14 => ?_) (fun h14 => ?_)
            · refine gg_st (go_aload_n 0 d_X6_readSide_106 rfl rfl rfl) ?_
              refine gg_st (go_iload_n 1 d_X6_readSide_107 rfl rfl rfl) ?_
              refine gv_IS (k_X6_readSideNames l w F p1 s12) cv_X6_149 sC_1 (Nat.le_of_ble_eq_true rfl) rfl rfl (Nat.le_of_ble_eq_true rfl) d_X6_readSide_108 rfl (fun x15 => ?_)
              refine gg_st (go_goto (pc' := 115) d_X6_readSide_111 (by decide)) ?_
              refine gg_st (go_fg [some (.ref (1)), none, some (.int t1), some (.int x7), none] ⟨rfl, ⟨rfl, ⟨rfl, trivial⟩⟩⟩) ?_
              exact gg_end rfl
            · refine gg_st (go_iconst d_X6_readSide_114 ci_0 rfl) ?_
              refine gg_st (go_fg [some (.ref (1)), none, some (.int t1), some (.int x7), none] ⟨rfl, ⟨rfl, ⟨rfl, trivial⟩⟩⟩) ?_
              exact gg_end rfl
          · refine gg_st (go_istore 4 d_X6_readSide_115 (by decide) (L' := [some (.ref (1)), none, some (.int t1), some (.int x7), some (.int t13.1)]) rfl rfl) ?_
            refine gg_st (go_aload_n 0 d_X6_readSide_117 rfl rfl rfl) ?_
            refine gg_st (go_iload_n 2 d_X6_readSide_118 rfl rfl rfl) ?_
            refine gg_st (go_iload 4 d_X6_readSide_119 rfl rfl) ?_
            refine gg_st (go_iload_n 3 d_X6_readSide_121 rfl rfl rfl) ?_
            refine gv_V (k_X6_askBracket l w t1 t13.1 x7 t13.2) cv_X6_153 sC_1 (Nat.le_of_ble_eq_true rfl) rfl rfl (Nat.le_of_ble_eq_true rfl) d_X6_readSide_122 rfl (fun s16 => ?_)
            exact gg_vret rfl d_X6_readSide_125 rfl
    · refine gg_st (go_aload_n 0 d_X6_readSide_44 rfl rfl rfl) ?_
      refine gv_V (k_X6_refuseToken l w  σ) cv_X6_75 sC_1 (Nat.le_of_ble_eq_true rfl) rfl rfl (Nat.le_of_ble_eq_true rfl) d_X6_readSide_45 rfl (fun s17 => ?_)
      refine gg_st (go_goto (pc' := 125) d_X6_readSide_48 (by decide)) ?_
      exact gg_vret rfl d_X6_readSide_125 rfl
def f_X6_readRule (F : Nat) (σ : St) : Option (St) :=
  Option.bind (some (f_X8_isFull σ)) fun x1 =>
  if x1 = 0 then (
    Option.bind (f_X9_advance σ) fun s3 =>
    Option.bind (f_X1_clear F s3) fun s4 =>
    Option.bind (some (seti s4 (1) 2 (1 : Int32))) fun s5 =>
    Option.bind (f_X6_readSide F (0 : Int32) s5) fun s6 =>
    Option.bind (
      if (s6.1 (1) 4) = 0 then (
        Option.bind (f_X6_pass (4 : Int32) s6) fun s9 =>
        some s9)
      else (
        some s6)) fun t7 =>
    Option.bind (
      if (t7.1 (1) 4) = 0 then (
        Option.bind (f_X6_readSide F (1 : Int32) t7) fun s12 =>
        some s12)
      else (
        some t7)) fun t10 =>
    Option.bind (
      if ((t10.1 (1) 4) = 0) ∧ ((t10.1 (9) 7) = (58 : Int32)) then (
        Option.bind (f_X9_advance t10) fun s14 =>
        Option.bind (f_X6_readLinks F s14) fun s15 =>
        some s15)
      else (
        some t10)) fun t13 =>
    if (t13.1 (1) 4) = 0 then (
      Option.bind (f_X6_endRule F t13) fun s21 =>
      some s21)
    else (
      some t13))
  else (
    Option.bind (f_X6_refuse (4 : Int32) σ) fun s22 =>
    some s22)
set_option maxRecDepth 20000 in
theorem k_X6_readRule (l : Launch) (w : Wo) (F : Nat) (σ : St) : K l w shC m_X6_readRule 87 [.ref (1)] σ (f_X6_readRule F σ) (rV) := by
  refine k_of (L := [some (.ref (1))]) (plainFor_of_name (by decide +kernel)) 0 rfl (Nat.le_of_ble_eq_true rfl) ?_
  unfold f_X6_readRule
  refine gg_st (go_aload_n 0 d_X6_readRule_0 rfl rfl rfl) ?_
  refine gg_st (go_getR (j := 6) cf6 sC_1 rfl (by decide) fl_X6_32 d_X6_readRule_1 rfl) ?_
  refine gg_st (go_getR (j := 1) cf0 sC_14 rfl (by decide) fl_X6_129 d_X6_readRule_4 rfl) ?_
  refine gv_I (k_X8_isFull l w  σ) cv_X6_133 sC_19 (Nat.le_of_ble_eq_true rfl) rfl rfl (Nat.le_of_ble_eq_true rfl) d_X6_readRule_7 rfl (fun x1 => ?_)
  refine gg_br (br_if_eq (tgt := 19) (pc' := 13) d_X6_readRule_10 (by decide) rfl) (fun h2 => ?_) (fun h2 => ?_)
  · refine gg_st (go_aload_n 0 d_X6_readRule_19 rfl rfl rfl) ?_
    refine gg_st (go_getR (j := 5) cf6 sC_1 rfl (by decide) fl_X6_25 d_X6_readRule_20 rfl) ?_
    refine gv_V (k_X9_advance l w  σ) cv_X6_88 sC_9 (Nat.le_of_ble_eq_true rfl) rfl rfl (Nat.le_of_ble_eq_true rfl) d_X6_readRule_23 rfl (fun s3 => ?_)
    refine gg_st (go_aload_n 0 d_X6_readRule_26 rfl rfl rfl) ?_
    refine gg_st (go_getR (j := 0) cf6 sC_1 rfl (by decide) fl_X6_12 d_X6_readRule_27 rfl) ?_
    refine gv_V (k_X1_clear l w F  s3) cv_X6_136 sC_2 (Nat.le_of_ble_eq_true rfl) rfl rfl (Nat.le_of_ble_eq_true rfl) d_X6_readRule_30 rfl (fun s4 => ?_)
    refine gg_st (go_aload_n 0 d_X6_readRule_33 rfl rfl rfl) ?_
    refine gg_st (go_iconst d_X6_readRule_34 ci_1 rfl) ?_
    refine gg_st (go_putZ (Or.inr rfl) (j := 2) cf6 sC_1 rfl (by decide) rfl rfl fl_X6_137 d_X6_readRule_35 rfl) ?_
    refine gg_som (fun s5 => ?_)
    refine gg_st (go_aload_n 0 d_X6_readRule_38 rfl rfl rfl) ?_
    refine gg_st (go_iconst d_X6_readRule_39 ci_0 rfl) ?_
    refine gv_V (k_X6_readSide l w F (0 : Int32) s5) cv_X6_140 sC_1 (Nat.le_of_ble_eq_true rfl) rfl rfl (Nat.le_of_ble_eq_true rfl) d_X6_readRule_40 rfl (fun s6 => ?_)
    refine gg_st (go_aload_n 0 d_X6_readRule_43 rfl rfl rfl) ?_
    refine gg_st (go_getI (j := 4) cf6 sC_1 rfl (by decide) fl_X6_47 d_X6_readRule_44 rfl) ?_
    refine gg_bind 55 (fun (t7 : St) => [some (.ref (1))]) (fun (t7 : St) => []) (fun (t7 : St) => t7) ?_ (fun t7 => ?_)
    · refine gg_br (br_if_ne (tgt := 55) (pc' := 50) d_X6_readRule_47 (by decide) rfl) (fun h8 => ?_) (fun h8 => ?_)
      · refine gg_st (go_aload_n 0 d_X6_readRule_50 rfl rfl rfl) ?_
        refine gg_st (go_iconst d_X6_readRule_51 ci_4 rfl) ?_
        refine gv_V (k_X6_pass l w (4 : Int32) s6) cv_X6_119 sC_1 (Nat.le_of_ble_eq_true rfl) rfl rfl (Nat.le_of_ble_eq_true rfl) d_X6_readRule_52 rfl (fun s9 => ?_)
        exact gg_end rfl
      · exact gg_end rfl
    · refine gg_st (go_aload_n 0 d_X6_readRule_55 rfl rfl rfl) ?_
      refine gg_st (go_getI (j := 4) cf6 sC_1 rfl (by decide) fl_X6_47 d_X6_readRule_56 rfl) ?_
      refine gg_bind 67 (fun (t10 : St) => [some (.ref (1))]) (fun (t10 : St) => []) (fun (t10 : St) => t10) ?_ (fun t10 => ?_)
      · refine gg_br (br_if_ne (tgt := 67) (pc' := 62) d_X6_readRule_59 (by decide) rfl) (fun h11 => ?_) (fun h11 => ?_)
        · refine gg_st (go_aload_n 0 d_X6_readRule_62 rfl rfl rfl) ?_
          refine gg_st (go_iconst d_X6_readRule_63 ci_1 rfl) ?_
          refine gv_V (k_X6_readSide l w F (1 : Int32) t7) cv_X6_140 sC_1 (Nat.le_of_ble_eq_true rfl) rfl rfl (Nat.le_of_ble_eq_true rfl) d_X6_readRule_64 rfl (fun s12 => ?_)
          exact gg_end rfl
        · exact gg_end rfl
      · refine gg_st (go_aload_n 0 d_X6_readRule_67 rfl rfl rfl) ?_
        refine gg_st (go_getI (j := 4) cf6 sC_1 rfl (by decide) fl_X6_47 d_X6_readRule_68 rfl) ?_
        refine gg_bind 97 (fun (t13 : St) => [some (.ref (1))]) (fun (t13 : St) => []) (fun (t13 : St) => t13) ?_ (fun t13 => ?_)
        · refine gg_two (c := ((t10.1 (1) 4) = 0) ∧ ((t10.1 (9) 7) = (58 : Int32))) (pA := 86) (pB := 97) (LL := [some (.ref (1))]) (ss := []) ?_ ?_ (fun hA16 hB17 => ?_)
          · refine gg_st (go_aload_n 0 d_X6_readRule_86 rfl rfl rfl) ?_
            refine gg_st (go_getR (j := 5) cf6 sC_1 rfl (by decide) fl_X6_25 d_X6_readRule_87 rfl) ?_
            refine gv_V (k_X9_advance l w  t10) cv_X6_88 sC_9 (Nat.le_of_ble_eq_true rfl) rfl rfl (Nat.le_of_ble_eq_true rfl) d_X6_readRule_90 rfl (fun s14 => ?_)
            refine gg_st (go_aload_n 0 d_X6_readRule_93 rfl rfl rfl) ?_
            refine gv_V (k_X6_readLinks l w F  s14) cv_X6_143 sC_1 (Nat.le_of_ble_eq_true rfl) rfl rfl (Nat.le_of_ble_eq_true rfl) d_X6_readRule_94 rfl (fun s15 => ?_)
            exact gg_end rfl
          · exact gg_end rfl
          refine gg_brs (br_if_ne (tgt := 97) (pc' := 74) d_X6_readRule_71 (by decide) rfl) (fun h18 => ?_) (fun h18 => ?_)
          · refine gg_st (go_aload_n 0 d_X6_readRule_74 rfl rfl rfl) ?_
            refine gg_st (go_getR (j := 5) cf6 sC_1 rfl (by decide) fl_X6_25 d_X6_readRule_75 rfl) ?_
            refine gg_st (go_getI (j := 7) cf9 sC_9 rfl (by decide) fl_X6_53 d_X6_readRule_78 rfl) ?_
            refine gg_st (go_bipush d_X6_readRule_81 cb_58 rfl) ?_
            refine gg_brs (br_icmp_ne (tgt := 97) (pc' := 86) d_X6_readRule_83 (by decide) rfl) (fun h19 => ?_) (fun h19 => ?_)
            · exact gg_eq (if_pos ⟨h18, h19⟩) hA16
            · exact gg_eq (if_neg (fun z => h19 z.2)) hB17
          · exact gg_eq (if_neg (fun z => h18 z.1)) hB17
        · refine gg_st (go_aload_n 0 d_X6_readRule_97 rfl rfl rfl) ?_
          refine gg_st (go_getI (j := 4) cf6 sC_1 rfl (by decide) fl_X6_47 d_X6_readRule_98 rfl) ?_
          refine gg_br (br_if_ne (tgt := 108) (pc' := 104) d_X6_readRule_101 (by decide) rfl) (fun h20 => ?_) (fun h20 => ?_)
          · refine gg_st (go_aload_n 0 d_X6_readRule_104 rfl rfl rfl) ?_
            refine gv_V (k_X6_endRule l w F  t13) cv_X6_146 sC_1 (Nat.le_of_ble_eq_true rfl) rfl rfl (Nat.le_of_ble_eq_true rfl) d_X6_readRule_105 rfl (fun s21 => ?_)
            exact gg_vret rfl d_X6_readRule_108 rfl
          · exact gg_vret rfl d_X6_readRule_108 rfl
  · refine gg_st (go_aload_n 0 d_X6_readRule_13 rfl rfl rfl) ?_
    refine gg_st (go_iconst d_X6_readRule_14 ci_4 rfl) ?_
    refine gv_V (k_X6_refuse l w (4 : Int32) σ) cv_X6_101 sC_1 (Nat.le_of_ble_eq_true rfl) rfl rfl (Nat.le_of_ble_eq_true rfl) d_X6_readRule_15 rfl (fun s22 => ?_)
    exact gg_vret rfl d_X6_readRule_18 rfl
def f_X9_addToken (p1 : Int32) (p2 : Int32) (p3 : Int64) (σ : St) : Option (St) :=
  if (σ.1 (9) 4) ≤ (4000 : Int32) then (
    if inb (σ.1 (9) 4) 4001 then (
      Option.bind (some (seti σ (11) (ix (σ.1 (9) 4)) p1)) fun s5 =>
      if inb (s5.1 (9) 4) 4001 then (
        Option.bind (some (seti s5 (12) (ix (s5.1 (9) 4)) p2)) fun s7 =>
        if inb (s7.1 (9) 4) 4001 then (
          Option.bind (some (setl s7 (13) (ix (s7.1 (9) 4)) p3)) fun s9 =>
          Option.bind (some (seti s9 (9) 4 ((s9.1 (9) 4) + (1 : Int32)))) fun s10 =>
          some s10)
        else none)
      else none)
    else none)
  else (
    some σ)
set_option maxRecDepth 20000 in
theorem k_X9_addToken (l : Launch) (w : Wo) (p1 : Int32) (p2 : Int32) (p3 : Int64) (σ : St) : K l w shC m_X9_addToken 1 [.ref (9), .int p1, .int p2, .long p3] σ (f_X9_addToken p1 p2 p3 σ) (rV) := by
  refine k_of (L := [some (.ref (9)), some (.int p1), some (.int p2), some (.long p3), none]) (plainFor_of_name (by decide +kernel)) 0 rfl (Nat.le_of_ble_eq_true rfl) ?_
  unfold f_X9_addToken
  refine gg_st (go_aload_n 0 d_X9_addToken_0 rfl rfl rfl) ?_
  refine gg_st (go_getI (j := 4) cf9 sC_9 rfl (by decide) fl_X9_34 d_X9_addToken_1 rfl) ?_
  refine gg_st (go_sipush d_X9_addToken_4 cs_4000 rfl) ?_
  refine gg_br (br_icmp_gt (tgt := 50) (pc' := 10) d_X9_addToken_7 (by decide) rfl) (fun h3 => ?_) (fun h3 => ?_)
  · refine gg_st (go_aload_n 0 d_X9_addToken_10 rfl rfl rfl) ?_
    refine gg_st (go_getR (j := 1) cf9 sC_9 rfl (by decide) fl_X9_15 d_X9_addToken_11 rfl) ?_
    refine gg_st (go_aload_n 0 d_X9_addToken_14 rfl rfl rfl) ?_
    refine gg_st (go_getI (j := 4) cf9 sC_9 rfl (by decide) fl_X9_34 d_X9_addToken_15 rfl) ?_
    refine gg_st (go_iload_n 1 d_X9_addToken_18 rfl rfl rfl) ?_
    refine gg_gd (fun h4 => ?_)
    refine gg_st (go_iast sC_11 h4 d_X9_addToken_19 rfl) ?_
    refine gg_som (fun s5 => ?_)
    refine gg_st (go_aload_n 0 d_X9_addToken_20 rfl rfl rfl) ?_
    refine gg_st (go_getR (j := 2) cf9 sC_9 rfl (by decide) fl_X9_19 d_X9_addToken_21 rfl) ?_
    refine gg_st (go_aload_n 0 d_X9_addToken_24 rfl rfl rfl) ?_
    refine gg_st (go_getI (j := 4) cf9 sC_9 rfl (by decide) fl_X9_34 d_X9_addToken_25 rfl) ?_
    refine gg_st (go_iload_n 2 d_X9_addToken_28 rfl rfl rfl) ?_
    refine gg_gd (fun h6 => ?_)
    refine gg_st (go_iast sC_12 h6 d_X9_addToken_29 rfl) ?_
    refine gg_som (fun s7 => ?_)
    refine gg_st (go_aload_n 0 d_X9_addToken_30 rfl rfl rfl) ?_
    refine gg_st (go_getR (j := 3) cf9 sC_9 rfl (by decide) fl_X9_22 d_X9_addToken_31 rfl) ?_
    refine gg_st (go_aload_n 0 d_X9_addToken_34 rfl rfl rfl) ?_
    refine gg_st (go_getI (j := 4) cf9 sC_9 rfl (by decide) fl_X9_34 d_X9_addToken_35 rfl) ?_
    refine gg_st (go_lload_n 3 d_X9_addToken_38 rfl rfl rfl) ?_
    refine gg_gd (fun h8 => ?_)
    refine gg_st (go_last sC_13 h8 d_X9_addToken_39 rfl) ?_
    refine gg_som (fun s9 => ?_)
    refine gg_st (go_aload_n 0 d_X9_addToken_40 rfl rfl rfl) ?_
    refine gg_st (go_dup d_X9_addToken_41 rfl rfl) ?_
    refine gg_st (go_getI (j := 4) cf9 sC_9 rfl (by decide) fl_X9_34 d_X9_addToken_42 rfl) ?_
    refine gg_st (go_iconst d_X9_addToken_45 ci_1 rfl) ?_
    refine gg_st (go_iadd d_X9_addToken_46 rfl) ?_
    refine gg_st (go_putI (j := 4) cf9 sC_9 rfl (by decide) rfl rfl fl_X9_34 d_X9_addToken_47 rfl) ?_
    refine gg_som (fun s10 => ?_)
    exact gg_vret rfl d_X9_addToken_50 rfl
  · exact gg_vret rfl d_X9_addToken_50 rfl
def f_X9_byteAt (p1 : Int32) (σ : St) : Option (Int32) :=
  Option.bind (some (f_X11_isInside p1 (σ.1 (9) 6))) fun x1 =>
  if (x1 = 0) ∨ (¬ (p1 < (4000 : Int32))) then (
    some (-1 : Int32))
  else (
    if inb p1 4000 then (
      some ((σ.1 (10) (ix p1)) &&& (255 : Int32)))
    else none)
set_option maxRecDepth 20000 in
theorem k_X9_byteAt (l : Launch) (w : Wo) (p1 : Int32) (σ : St) : K l w shC m_X9_byteAt 2 [.ref (9), .int p1] σ (f_X9_byteAt p1 σ) (rI σ) := by
  refine k_of (L := [some (.ref (9)), some (.int p1)]) (plainFor_of_name (by decide +kernel)) 0 rfl (Nat.le_of_ble_eq_true rfl) ?_
  unfold f_X9_byteAt
  refine gg_st (go_iload_n 1 d_X9_byteAt_0 rfl rfl rfl) ?_
  refine gg_st (go_aload_n 0 d_X9_byteAt_1 rfl rfl rfl) ?_
  refine gg_st (go_getI (j := 6) cf9 sC_9 rfl (by decide) fl_X9_26 d_X9_byteAt_2 rfl) ?_
  refine gs_I (k_X11_isInside l w p1 (σ.1 (9) 6) σ) cs_X9_30 (Nat.le_of_ble_eq_true rfl) rfl rfl (Nat.le_of_ble_eq_true rfl) d_X9_byteAt_5 rfl (fun x1 => ?_)
  refine gg_two (c := (x1 = 0) ∨ (¬ (p1 < (4000 : Int32)))) (pA := 31) (pB := 18) (LL := [some (.ref (9)), some (.int p1)]) (ss := []) ?_ ?_ (fun hA4 hB5 => ?_)
  · refine gg_st (go_iconst d_X9_byteAt_31 ci_m1 rfl) ?_
    exact gg_iret rfl d_X9_byteAt_32 rfl
  · refine gg_st (go_aload_n 0 d_X9_byteAt_18 rfl rfl rfl) ?_
    refine gg_st (go_getR (j := 0) cf9 sC_9 rfl (by decide) fl_X9_9 d_X9_byteAt_19 rfl) ?_
    refine gg_st (go_iload_n 1 d_X9_byteAt_22 rfl rfl rfl) ?_
    refine gg_gd (fun h3 => ?_)
    refine gg_st (go_bald sC_10 h3 d_X9_byteAt_23 rfl) ?_
    refine gg_st (go_sipush d_X9_byteAt_24 cs_255 rfl) ?_
    refine gg_st (go_iand d_X9_byteAt_27 rfl) ?_
    refine gg_st (go_goto (pc' := 32) d_X9_byteAt_28 (by decide)) ?_
    exact gg_iret rfl d_X9_byteAt_32 rfl
  refine gg_brs (br_if_eq (tgt := 31) (pc' := 11) d_X9_byteAt_8 (by decide) rfl) (fun h6 => ?_) (fun h6 => ?_)
  · exact gg_eq (if_pos (Or.inl h6)) hA4
  · refine gg_st (go_iload_n 1 d_X9_byteAt_11 rfl rfl rfl) ?_
    refine gg_st (go_sipush d_X9_byteAt_12 cs_4000 rfl) ?_
    refine gg_brs (br_icmp_ge (tgt := 31) (pc' := 18) d_X9_byteAt_15 (by decide) rfl) (fun h7 => ?_) (fun h7 => ?_)
    · exact gg_eq (if_neg (fun z => z.elim h6 (fun z => z h7))) hB5
    · exact gg_eq (if_pos (Or.inr h7)) hA4
def f_X9_isBig (p1 : Int32) : Int32 :=
  if ((65 : Int32) ≤ p1) ∧ (p1 ≤ (90 : Int32)) then (
    (1 : Int32))
  else (
    (0 : Int32))
set_option maxRecDepth 20000 in
theorem k_X9_isBig (l : Launch) (w : Wo) (p1 : Int32) (σ : St) : K l w shC m_X9_isBig 1 [.int p1] σ (some (f_X9_isBig p1)) (rI σ) := by
  refine k_of (L := [some (.int p1)]) (plainFor_of_name (by decide +kernel)) 0 rfl (Nat.le_of_ble_eq_true rfl) ?_
  unfold f_X9_isBig
  refine gg_st (go_iload_n 0 d_X9_isBig_0 rfl rfl rfl) ?_
  refine gg_st (go_bipush d_X9_isBig_1 cb_65 rfl) ?_
  refine gg_twov (c := ((65 : Int32) ≤ p1) ∧ (p1 ≤ (90 : Int32))) (pA := 12) (pB := 16) (LL := [some (.int p1)]) (ss := []) ?_ ?_ (fun hA1 hB2 => ?_)
  · refine gg_st (go_iconst d_X9_isBig_12 ci_1 rfl) ?_
    refine gg_st (go_goto (pc' := 17) d_X9_isBig_13 (by decide)) ?_
    exact gg_zret (Or.inr rfl) rfl d_X9_isBig_17 rfl
  · refine gg_st (go_iconst d_X9_isBig_16 ci_0 rfl) ?_
    exact gg_zret (Or.inl rfl) rfl d_X9_isBig_17 rfl
  refine gg_brs (br_icmp_lt (tgt := 16) (pc' := 6) d_X9_isBig_3 (by decide) rfl) (fun h3 => ?_) (fun h3 => ?_)
  · refine gg_st (go_iload_n 0 d_X9_isBig_6 rfl rfl rfl) ?_
    refine gg_st (go_bipush d_X9_isBig_7 cb_90 rfl) ?_
    refine gg_brs (br_icmp_gt (tgt := 16) (pc' := 12) d_X9_isBig_9 (by decide) rfl) (fun h4 => ?_) (fun h4 => ?_)
    · exact gg_eq (congrArg some (if_pos ⟨h3, h4⟩)) hA1
    · exact gg_eq (congrArg some (if_neg (fun z => h4 z.2))) hB2
  · exact gg_eq (congrArg some (if_neg (fun z => h3 z.1))) hB2
def f_X9_isDigit (p1 : Int32) : Int32 :=
  if ((48 : Int32) ≤ p1) ∧ (p1 ≤ (57 : Int32)) then (
    (1 : Int32))
  else (
    (0 : Int32))
set_option maxRecDepth 20000 in
theorem k_X9_isDigit (l : Launch) (w : Wo) (p1 : Int32) (σ : St) : K l w shC m_X9_isDigit 1 [.int p1] σ (some (f_X9_isDigit p1)) (rI σ) := by
  refine k_of (L := [some (.int p1)]) (plainFor_of_name (by decide +kernel)) 0 rfl (Nat.le_of_ble_eq_true rfl) ?_
  unfold f_X9_isDigit
  refine gg_st (go_iload_n 0 d_X9_isDigit_0 rfl rfl rfl) ?_
  refine gg_st (go_bipush d_X9_isDigit_1 cb_48 rfl) ?_
  refine gg_twov (c := ((48 : Int32) ≤ p1) ∧ (p1 ≤ (57 : Int32))) (pA := 12) (pB := 16) (LL := [some (.int p1)]) (ss := []) ?_ ?_ (fun hA1 hB2 => ?_)
  · refine gg_st (go_iconst d_X9_isDigit_12 ci_1 rfl) ?_
    refine gg_st (go_goto (pc' := 17) d_X9_isDigit_13 (by decide)) ?_
    exact gg_zret (Or.inr rfl) rfl d_X9_isDigit_17 rfl
  · refine gg_st (go_iconst d_X9_isDigit_16 ci_0 rfl) ?_
    exact gg_zret (Or.inl rfl) rfl d_X9_isDigit_17 rfl
  refine gg_brs (br_icmp_lt (tgt := 16) (pc' := 6) d_X9_isDigit_3 (by decide) rfl) (fun h3 => ?_) (fun h3 => ?_)
  · refine gg_st (go_iload_n 0 d_X9_isDigit_6 rfl rfl rfl) ?_
    refine gg_st (go_bipush d_X9_isDigit_7 cb_57 rfl) ?_
    refine gg_brs (br_icmp_gt (tgt := 16) (pc' := 12) d_X9_isDigit_9 (by decide) rfl) (fun h4 => ?_) (fun h4 => ?_)
    · exact gg_eq (congrArg some (if_pos ⟨h3, h4⟩)) hA1
    · exact gg_eq (congrArg some (if_neg (fun z => h4 z.2))) hB2
  · exact gg_eq (congrArg some (if_neg (fun z => h3 z.1))) hB2
def f_X9_isLetterOrDigit (p1 : Int32) : Int32 :=
  if ((97 : Int32) ≤ p1) ∧ (¬ ((122 : Int32) < p1)) then (
    (1 : Int32))
  else (
    if ((f_X9_isBig p1) = 0) ∧ ((f_X9_isDigit p1) = 0) then (
      (0 : Int32))
    else (
      (1 : Int32)))
set_option maxRecDepth 20000 in
theorem k_X9_isLetterOrDigit (l : Launch) (w : Wo) (p1 : Int32) (σ : St) : K l w shC m_X9_isLetterOrDigit 2 [.int p1] σ (some (f_X9_isLetterOrDigit p1)) (rI σ) := by
  refine k_of (L := [some (.int p1)]) (plainFor_of_name (by decide +kernel)) 0 rfl (Nat.le_of_ble_eq_true rfl) ?_
  unfold f_X9_isLetterOrDigit
  refine gg_st (go_iload_n 0 d_X9_isLetterOrDigit_0 rfl rfl rfl) ?_
  refine gg_st (go_bipush d_X9_isLetterOrDigit_1 cb_97 rfl) ?_
  refine gg_twov (c := ((97 : Int32) ≤ p1) ∧ (¬ ((122 : Int32) < p1))) (pA := 26) (pB := 12) (LL := [some (.int p1)]) (ss := []) ?_ ?_ (fun hA5 hB6 => ?_)
  · refine gg_st (go_iconst d_X9_isLetterOrDigit_26 ci_1 rfl) ?_
    refine gg_st (go_goto (pc' := 31) d_X9_isLetterOrDigit_27 (by decide)) ?_
    exact gg_zret (Or.inr rfl) rfl d_X9_isLetterOrDigit_31 rfl
  · refine gg_st (go_iload_n 0 d_X9_isLetterOrDigit_12 rfl rfl rfl) ?_
    refine gg_st (go_sI (k_X9_isBig l w p1 σ) cs_X9_90 (Nat.le_of_ble_eq_true rfl) rfl rfl (Nat.le_of_ble_eq_true rfl) d_X9_isLetterOrDigit_13 rfl) ?_
    refine gg_twov (c := ((f_X9_isBig p1) = 0) ∧ ((f_X9_isDigit p1) = 0)) (pA := 30) (pB := 26) (LL := [some (.int p1)]) (ss := []) ?_ ?_ (fun hA1 hB2 => ?_)
    · refine gg_st (go_iconst d_X9_isLetterOrDigit_30 ci_0 rfl) ?_
      exact gg_zret (Or.inl rfl) rfl d_X9_isLetterOrDigit_31 rfl
    · refine gg_st (go_iconst d_X9_isLetterOrDigit_26 ci_1 rfl) ?_
      refine gg_st (go_goto (pc' := 31) d_X9_isLetterOrDigit_27 (by decide)) ?_
      exact gg_zret (Or.inr rfl) rfl d_X9_isLetterOrDigit_31 rfl
    refine gg_brs (br_if_ne (tgt := 26) (pc' := 19) d_X9_isLetterOrDigit_16 (by decide) rfl) (fun h3 => ?_) (fun h3 => ?_)
    · refine gg_st (go_iload_n 0 d_X9_isLetterOrDigit_19 rfl rfl rfl) ?_
      refine gg_st (go_sI (k_X9_isDigit l w p1 σ) cs_X9_94 (Nat.le_of_ble_eq_true rfl) rfl rfl (Nat.le_of_ble_eq_true rfl) d_X9_isLetterOrDigit_20 rfl) ?_
      refine gg_brs (br_if_eq (tgt := 30) (pc' := 26) d_X9_isLetterOrDigit_23 (by decide) rfl) (fun h4 => ?_) (fun h4 => ?_)
      · exact gg_eq (congrArg some (if_pos ⟨h3, h4⟩)) hA1
      · exact gg_eq (congrArg some (if_neg (fun z => h4 z.2))) hB2
    · exact gg_eq (congrArg some (if_neg (fun z => h3 z.1))) hB2
  refine gg_brs (br_icmp_lt (tgt := 12) (pc' := 6) d_X9_isLetterOrDigit_3 (by decide) rfl) (fun h7 => ?_) (fun h7 => ?_)
  · refine gg_st (go_iload_n 0 d_X9_isLetterOrDigit_6 rfl rfl rfl) ?_
    refine gg_st (go_bipush d_X9_isLetterOrDigit_7 cb_122 rfl) ?_
    refine gg_brs (br_icmp_le (tgt := 26) (pc' := 12) d_X9_isLetterOrDigit_9 (by decide) rfl) (fun h8 => ?_) (fun h8 => ?_)
    · exact gg_eq (congrArg some (if_neg (fun z => (fun z => z h8) z.2))) hB6
    · exact gg_eq (congrArg some (if_pos ⟨h7, h8⟩)) hA5
  · exact gg_eq (congrArg some (if_neg (fun z => h7 z.1))) hB6
def f_X9_countRow_L2 (F : Nat) (c1 : Int32) (σ : St) : Nat → Int32 → Option (Int32)
  | 0, _ => none
  | n + 1, v1 =>
    if (c1 + v1) < (σ.1 (9) 6) then (
      Option.bind (f_X9_byteAt (c1 + v1) σ) fun x3 =>
      Option.bind (some (f_X9_isLetterOrDigit x3)) fun x4 =>
      if x4 = 0 then (
        some v1)
      else (
        f_X9_countRow_L2 F c1 σ n (v1 + (1 : Int32))))
    else (
      some v1)
def f_X9_countRow (F : Nat) (p1 : Int32) (σ : St) : Option (Int32) :=
  Option.bind (f_X9_countRow_L2 F p1 σ F (0 : Int32)) fun t6 =>
  some t6
set_option maxRecDepth 20000 in
theorem g_f_X9_countRow_L2 (l : Launch) (w : Wo) (F : Nat) (c1 : Int32) (σ : St) : ∀ (n : Nat) (v1 : Int32), GG l w shC m_X9_countRow 3 2 [some (.ref (9)), some (.int c1), some (.int v1)] [] σ (f_X9_countRow_L2 F c1 σ n v1) (fun (t : Int32) => .inl (31, [none, none, some (.int t)], [], σ)) := by
  intro n
  induction n with
  | zero =>
    intro v1
    exact gg_none
  | succ n ih =>
    intro v1
    rw [f_X9_countRow_L2]
    refine gg_st (go_iload_n 1 d_X9_countRow_2 rfl rfl rfl) ?_
    refine gg_st (go_iload_n 2 d_X9_countRow_3 rfl rfl rfl) ?_
    refine gg_st (go_iadd d_X9_countRow_4 rfl) ?_
    refine gg_st (go_aload_n 0 d_X9_countRow_5 rfl rfl rfl) ?_
    refine gg_st (go_getI (j := 6) cf9 sC_9 rfl (by decide) fl_X9_26 d_X9_countRow_6 rfl) ?_
    refine gg_br (br_icmp_ge (tgt := 31) (pc' := 12) d_X9_countRow_9 (by decide) rfl) (fun h2 => ?_) (fun h2 => ?_)
    · refine gg_st (go_aload_n 0 d_X9_countRow_12 rfl rfl rfl) ?_
      refine gg_st (go_iload_n 1 d_X9_countRow_13 rfl rfl rfl) ?_
      refine gg_st (go_iload_n 2 d_X9_countRow_14 rfl rfl rfl) ?_
      refine gg_st (go_iadd d_X9_countRow_15 rfl) ?_
      refine gv_I (k_X9_byteAt l w (c1 + v1) σ) cv_X9_57 sC_9 (Nat.le_of_ble_eq_true rfl) rfl rfl (Nat.le_of_ble_eq_true rfl) d_X9_countRow_16 rfl (fun x3 => ?_)
      refine gs_I (k_X9_isLetterOrDigit l w x3 σ) cs_X9_97 (Nat.le_of_ble_eq_true rfl) rfl rfl (Nat.le_of_ble_eq_true rfl) d_X9_countRow_19 rfl (fun x4 => ?_)
      refine gg_br (br_if_eq (tgt := 31) (pc' := 25) d_X9_countRow_22 (by decide) rfl) (fun h5 => ?_) (fun h5 => ?_)
      · refine gg_st (go_fg [none, none, some (.int v1)] ⟨rfl, trivial⟩) ?_
        exact gg_end rfl
      · refine gg_st (go_iinc 2 d_X9_countRow_25 rfl (v := v1 + (1 : Int32)) (by rw [ci_1]) (by decide) (L' := [some (.ref (9)), some (.int c1), some (.int (v1 + (1 : Int32)))]) rfl rfl) ?_
        refine gg_st (go_goto (pc' := 2) d_X9_countRow_28 (by decide)) ?_
        exact ih (v1 + (1 : Int32))
    · refine gg_st (go_fg [none, none, some (.int v1)] ⟨rfl, trivial⟩) ?_
      exact gg_end rfl
set_option maxRecDepth 20000 in
theorem k_X9_countRow (l : Launch) (w : Wo) (F : Nat) (p1 : Int32) (σ : St) : K l w shC m_X9_countRow 3 [.ref (9), .int p1] σ (f_X9_countRow F p1 σ) (rI σ) := by
  refine k_of (L := [some (.ref (9)), some (.int p1), none]) (plainFor_of_name (by decide +kernel)) 1 rfl (Nat.le_of_ble_eq_true rfl) ?_
  unfold f_X9_countRow
  refine gg_st (go_iconst d_X9_countRow_0 ci_0 rfl) ?_
  refine gg_st (go_istore_n 2 d_X9_countRow_1 rfl (by decide) (L' := [some (.ref (9)), some (.int p1), some (.int (0 : Int32))]) rfl rfl) ?_
  refine gg_bind 31 (fun (t6 : Int32) => [none, none, some (.int t6)]) (fun (t6 : Int32) => []) (fun (t6 : Int32) => σ) (g_f_X9_countRow_L2 l w F p1 σ F (0 : Int32)) (fun t6 => ?_)
  refine gg_st (go_iload_n 2 d_X9_countRow_31 rfl rfl rfl) ?_
  exact gg_iret rfl d_X9_countRow_32 rfl
def f_X9_kindOfRow_L31 (F : Nat) (c1 : Int32) (c2 : Int32) (c3 : Int32) (σ : St) (k0 : Unit → Option (Int32)) : Nat → Int32 → Option (Int32)
  | 0, _ => none
  | n + 1, v7 =>
    if (v7 < c2) ∧ (c3 = 0) then (
      Option.bind (f_X9_byteAt (c1 + v7) σ) fun x8 =>
      Option.bind (some (f_X9_isBig x8)) fun x9 =>
      if x9 = 0 then (
        f_X9_kindOfRow_L31 F c1 c2 c3 σ k0 n (v7 + (1 : Int32)))
      else (
        some (0 : Int32)))
    else (
      k0 ())
def f_X9_kindOfRow (F : Nat) (p1 : Int32) (p2 : Int32) (σ : St) : Option (Int32) :=
  Option.bind (f_X9_byteAt p1 σ) fun x1 =>
  Option.bind (some (f_X9_isBig x1)) fun x2 =>
  if p2 ≤ (8 : Int32) then (
    Option.bind (f_X9_byteAt p1 σ) fun x4 =>
    Option.bind (some (f_X9_isDigit x4)) fun x5 =>
    if x5 = 0 then (
      f_X9_kindOfRow_L31 F p1 p2 x2 σ
        (fun (t15 : Unit) =>
          if x2 = 0 then (
            some (2 : Int32))
          else (
            some (3 : Int32))) F (1 : Int32))
    else (
      some (0 : Int32)))
  else (
    some (0 : Int32))
set_option maxRecDepth 20000 in
theorem g_f_X9_kindOfRow_L31 (l : Launch) (w : Wo) (F : Nat) (c1 : Int32) (c2 : Int32) (c3 : Int32) (σ : St) (k0 : Unit → Option (Int32)) (hk0 : ∀ t, GG l w shC m_X9_kindOfRow 3 63 [none, none, none, some (.int c3), none] [] σ (k0 t) (fun q => .inr ((rI σ) q))) : ∀ (n : Nat) (v7 : Int32), GG l w shC m_X9_kindOfRow 3 31 [some (.ref (9)), some (.int c1), some (.int c2), some (.int c3), some (.int v7)] [] σ (f_X9_kindOfRow_L31 F c1 c2 c3 σ k0 n v7) (fun q => .inr ((rI σ) q)) := by
  intro n
  induction n with
  | zero =>
    intro v7
    exact gg_none
  | succ n ih =>
    intro v7
    rw [f_X9_kindOfRow_L31]
    refine gg_st (go_iload 4 d_X9_kindOfRow_31 rfl rfl) ?_
    refine gg_st (go_iload_n 2 d_X9_kindOfRow_33 rfl rfl rfl) ?_
    refine gg_two (c := (v7 < c2) ∧ (c3 = 0)) (pA := 41) (pB := 63) (LL := [some (.ref (9)), some (.int c1), some (.int c2), some (.int c3), some (.int v7)]) (ss := []) ?_ ?_ (fun hA11 hB12 => ?_)
    · refine gg_st (go_aload_n 0 d_X9_kindOfRow_41 rfl rfl rfl) ?_
      refine gg_st (go_iload_n 1 d_X9_kindOfRow_42 rfl rfl rfl) ?_
      refine gg_st (go_iload 4 d_X9_kindOfRow_43 rfl rfl) ?_
      refine gg_st (go_iadd d_X9_kindOfRow_45 rfl) ?_
      refine gv_I (k_X9_byteAt l w (c1 + v7) σ) cv_X9_57 sC_9 (Nat.le_of_ble_eq_true rfl) rfl rfl (Nat.le_of_ble_eq_true rfl) d_X9_kindOfRow_46 rfl (fun x8 => ?_)
      refine gs_I (k_X9_isBig l w x8 σ) cs_X9_90 (Nat.le_of_ble_eq_true rfl) rfl rfl (Nat.le_of_ble_eq_true rfl) d_X9_kindOfRow_49 rfl (fun x9 => ?_)
      refine gg_br (br_if_eq (tgt := 57) (pc' := 55) d_X9_kindOfRow_52 (by decide) rfl) (fun h10 => ?_) (fun h10 => ?_)
      · refine gg_st (go_iinc 4 d_X9_kindOfRow_57 rfl (v := v7 + (1 : Int32)) (by rw [ci_1]) (by decide) (L' := [some (.ref (9)), some (.int c1), some (.int c2), some (.int c3), some (.int (v7 + (1 : Int32)))]) rfl rfl) ?_
        refine gg_st (go_goto (pc' := 31) d_X9_kindOfRow_60 (by decide)) ?_
        exact ih (v7 + (1 : Int32))
      · refine gg_st (go_iconst d_X9_kindOfRow_55 ci_0 rfl) ?_
        exact gg_iret rfl d_X9_kindOfRow_56 rfl
    · refine gg_st (go_fg [none, none, none, some (.int c3), none] ⟨rfl, trivial⟩) ?_
      exact hk0 ()
    refine gg_brs (br_icmp_ge (tgt := 63) (pc' := 37) d_X9_kindOfRow_34 (by decide) rfl) (fun h13 => ?_) (fun h13 => ?_)
    · refine gg_st (go_iload_n 3 d_X9_kindOfRow_37 rfl rfl rfl) ?_
      refine gg_brs (br_if_ne (tgt := 63) (pc' := 41) d_X9_kindOfRow_38 (by decide) rfl) (fun h14 => ?_) (fun h14 => ?_)
      · exact gg_eq (if_pos ⟨h13, h14⟩) hA11
      · exact gg_eq (if_neg (fun z => h14 z.2)) hB12
    · exact gg_eq (if_neg (fun z => h13 z.1)) hB12
set_option maxRecDepth 20000 in
theorem k_X9_kindOfRow (l : Launch) (w : Wo) (F : Nat) (p1 : Int32) (p2 : Int32) (σ : St) : K l w shC m_X9_kindOfRow 3 [.ref (9), .int p1, .int p2] σ (f_X9_kindOfRow F p1 p2 σ) (rI σ) := by
  refine k_of (L := [some (.ref (9)), some (.int p1), some (.int p2), none, none]) (plainFor_of_name (by decide +kernel)) 2 rfl (Nat.le_of_ble_eq_true rfl) ?_
  unfold f_X9_kindOfRow
  refine gg_st (go_aload_n 0 d_X9_kindOfRow_0 rfl rfl rfl) ?_
  refine gg_st (go_iload_n 1 d_X9_kindOfRow_1 rfl rfl rfl) ?_
  refine gv_I (k_X9_byteAt l w p1 σ) cv_X9_57 sC_9 (Nat.le_of_ble_eq_true rfl) rfl rfl (Nat.le_of_ble_eq_true rfl) d_X9_kindOfRow_2 rfl (fun x1 => ?_)
  refine gs_I (k_X9_isBig l w x1 σ) cs_X9_90 (Nat.le_of_ble_eq_true rfl) rfl rfl (Nat.le_of_ble_eq_true rfl) d_X9_kindOfRow_5 rfl (fun x2 => ?_)
  refine gg_st (go_istore_n 3 d_X9_kindOfRow_8 rfl (by decide) (L' := [some (.ref (9)), some (.int p1), some (.int p2), some (.int x2), none]) rfl rfl) ?_
  refine gg_st (go_iload_n 2 d_X9_kindOfRow_9 rfl rfl rfl) ?_
  refine gg_st (go_bipush d_X9_kindOfRow_10 cb_8 rfl) ?_
  refine gg_br (br_icmp_gt (tgt := 26) (pc' := 15) d_X9_kindOfRow_12 (by decide) rfl) (fun h3 => ?_) (fun h3 => ?_)
  · refine gg_st (go_aload_n 0 d_X9_kindOfRow_15 rfl rfl rfl) ?_
    refine gg_st (go_iload_n 1 d_X9_kindOfRow_16 rfl rfl rfl) ?_
    refine gv_I (k_X9_byteAt l w p1 σ) cv_X9_57 sC_9 (Nat.le_of_ble_eq_true rfl) rfl rfl (Nat.le_of_ble_eq_true rfl) d_X9_kindOfRow_17 rfl (fun x4 => ?_)
    refine gs_I (k_X9_isDigit l w x4 σ) cs_X9_94 (Nat.le_of_ble_eq_true rfl) rfl rfl (Nat.le_of_ble_eq_true rfl) d_X9_kindOfRow_20 rfl (fun x5 => ?_)
    refine gg_br (br_if_eq (tgt := 28) (pc' := 26) d_X9_kindOfRow_23 (by decide) rfl) (fun h6 => ?_) (fun h6 => ?_)
    · refine gg_st (go_iconst d_X9_kindOfRow_28 ci_1 rfl) ?_
      refine gg_st (go_istore 4 d_X9_kindOfRow_29 (by decide) (L' := [some (.ref (9)), some (.int p1), some (.int p2), some (.int x2), some (.int (1 : Int32))]) rfl rfl) ?_
      refine g_f_X9_kindOfRow_L31 l w F p1 p2 x2 σ _ (fun t15 => ?_) F (1 : Int32)
      refine gg_st (go_iload_n 3 d_X9_kindOfRow_63 rfl rfl rfl) ?_
      refine gg_br (br_if_eq (tgt := 71) (pc' := 67) d_X9_kindOfRow_64 (by decide) rfl) (fun h16 => ?_) (fun h16 => ?_)
      · refine gg_st (go_iconst d_X9_kindOfRow_71 ci_2 rfl) ?_
        exact gg_iret rfl d_X9_kindOfRow_72 rfl
      · refine gg_st (go_iconst d_X9_kindOfRow_67 ci_3 rfl) ?_
        refine gg_st (go_goto (pc' := 72) d_X9_kindOfRow_68 (by decide)) ?_
        exact gg_iret rfl d_X9_kindOfRow_72 rfl
    · refine gg_st (go_iconst d_X9_kindOfRow_26 ci_0 rfl) ?_
      exact gg_iret rfl d_X9_kindOfRow_27 rfl
  · refine gg_st (go_iconst d_X9_kindOfRow_26 ci_0 rfl) ?_
    exact gg_iret rfl d_X9_kindOfRow_27 rfl
