def f_X11_keep (p1 : Int32) (σ : St) : Option (Int32 × St) :=
  Option.bind (f_X11_shelfAt p1) fun x1 =>
  match x1 with
  | none => (
    some ((-1001 : Int32), σ))
  | some b2 => (
    Option.bind (f_X4_copyFrom b2 (77) σ) fun s3 =>
    Option.bind (some (seti s3 b2 7 (1 : Int32))) fun s4 =>
    some (s4.1 b2 3, s4))
set_option maxRecDepth 20000 in
theorem k_X11_keep (l : Launch) (w : Wo) (p1 : Int32) (σ : St) : K l w shC m_X11_keep 3 [.ref (0), .int p1] σ (f_X11_keep p1 σ) (rIS) := by
  refine k_of (L := [some (.ref (0)), some (.int p1), none]) (plainFor_of_name (by decide +kernel)) 1 rfl (Nat.le_of_ble_eq_true rfl) ?_
  unfold f_X11_keep
  refine gg_st (go_aload_n 0 d_X11_keep_0 rfl rfl rfl) ?_
  refine gg_st (go_iload_n 1 d_X11_keep_1 rfl rfl rfl) ?_
  refine gv_AX (k_X11_shelfAt l w p1 σ) cv_X11_208 sC_0 (Nat.le_of_ble_eq_true rfl) rfl rfl (Nat.le_of_ble_eq_true rfl) d_X11_keep_2 rfl ?_ (fun b2 b2q => ?_)
  · refine gg_st (go_astore_nN 2 d_X11_keep_5 rfl (by decide) (L' := [some (.ref (0)), some (.int p1), some (.null)]) rfl rfl) ?_
    refine gg_st (go_aload_nN 2 d_X11_keep_6 rfl rfl rfl) ?_
    refine gg_st (go_ifnonnullN d_X11_keep_7 rfl) ?_
    refine gg_st (go_sipush d_X11_keep_10 cs_m1001 rfl) ?_
    exact gg_iret rfl d_X11_keep_13 rfl
  · have hb2 := shelf_mem b2q
    refine gg_st (go_astore_n 2 d_X11_keep_5 rfl (by decide) (L' := [some (.ref (0)), some (.int p1), some (.ref b2)]) rfl rfl) ?_
    refine gg_st (go_aload_n 2 d_X11_keep_6 rfl rfl rfl) ?_
    refine gg_st (go_ifnonnull (pc' := 14) d_X11_keep_7 (by decide)) ?_
    refine gg_st (go_aload_n 2 d_X11_keep_14 rfl rfl rfl) ?_
    refine gg_st (go_aload_n 0 d_X11_keep_15 rfl rfl rfl) ?_
    refine gg_st (go_getR (j := 8) cf11 sC_0 rfl (by decide) fl_X11_61 d_X11_keep_16 rfl) ?_
    refine gg_st (go_getR (j := 2) cf0 sC_64 rfl (by decide) fl_X11_92 d_X11_keep_19 rfl) ?_
    refine gv_V (k_X4_copyFrom l w (sub_st39_43_47_51_st39_43_47_51_77 _ hb2) (show 77 ∈ st39_43_47_51_77 by decide) σ) cv_X11_212 (sC_st39_43_47_51_0 hb2) (Nat.le_of_ble_eq_true rfl) rfl rfl (Nat.le_of_ble_eq_true rfl) d_X11_keep_22 rfl (fun s3 => ?_)
    refine gg_st (go_aload_n 2 d_X11_keep_25 rfl rfl rfl) ?_
    refine gg_st (go_iconst d_X11_keep_26 ci_1 rfl) ?_
    refine gg_st (go_putZ (Or.inr rfl) (j := 7) cf4 (sC_st39_43_47_51_0 hb2) rfl (by decide) rfl rfl fl_X11_216 d_X11_keep_27 rfl) ?_
    refine gg_som (fun s4 => ?_)
    refine gg_st (go_aload_n 2 d_X11_keep_30 rfl rfl rfl) ?_
    refine gg_st (go_getI (j := 3) cf4 (sC_st39_43_47_51_0 hb2) rfl (by decide) fl_X11_96 d_X11_keep_31 rfl) ?_
    exact gg_iret rfl d_X11_keep_34 rfl
def f_X3_has (a : Nat) (p1 : Int32) (σ : St) : Int32 :=
  if (0 ≤ p1) ∧ ((p1 < (σ.1 a 3)) ∧ (p1 < (16 : Int32))) then (
    (1 : Int32))
  else (
    (0 : Int32))
set_option maxRecDepth 20000 in
theorem k_X3_has (l : Launch) (w : Wo) {a : Nat} (ha : a ∈ st15_65) (p1 : Int32) (σ : St) : K l w shC m_X3_has 1 [.ref a, .int p1] σ (some (f_X3_has a p1 σ)) (rI σ) := by
  refine k_of (L := [some (.ref a), some (.int p1)]) (plainFor_of_name (by decide +kernel)) 0 rfl (Nat.le_of_ble_eq_true rfl) ?_
  unfold f_X3_has
  refine gg_st (go_iload_n 1 d_X3_has_0 rfl rfl rfl) ?_
  refine gg_twov (c := (0 ≤ p1) ∧ ((p1 < (σ.1 a 3)) ∧ (p1 < (16 : Int32)))) (pA := 18) (pB := 22) (LL := [some (.ref a), some (.int p1)]) (ss := []) ?_ ?_ (fun hA1 hB2 => ?_)
  · refine gg_st (go_iconst d_X3_has_18 ci_1 rfl) ?_
    refine gg_st (go_goto (pc' := 23) d_X3_has_19 (by decide)) ?_
    exact gg_zret (Or.inr rfl) rfl d_X3_has_23 rfl
  · refine gg_st (go_iconst d_X3_has_22 ci_0 rfl) ?_
    exact gg_zret (Or.inl rfl) rfl d_X3_has_23 rfl
  refine gg_brs (br_if_lt (tgt := 22) (pc' := 4) d_X3_has_1 (by decide) rfl) (fun h3 => ?_) (fun h3 => ?_)
  · refine gg_st (go_iload_n 1 d_X3_has_4 rfl rfl rfl) ?_
    refine gg_st (go_aload_n 0 d_X3_has_5 rfl rfl rfl) ?_
    refine gg_st (go_getI (j := 3) cf3 (sC_st15_65_0 ha) rfl (by decide) fl_X3_22 d_X3_has_6 rfl) ?_
    refine gg_brs (br_icmp_ge (tgt := 22) (pc' := 12) d_X3_has_9 (by decide) rfl) (fun h4 => ?_) (fun h4 => ?_)
    · refine gg_st (go_iload_n 1 d_X3_has_12 rfl rfl rfl) ?_
      refine gg_st (go_bipush d_X3_has_13 cb_16 rfl) ?_
      refine gg_brs (br_icmp_ge (tgt := 22) (pc' := 18) d_X3_has_15 (by decide) rfl) (fun h5 => ?_) (fun h5 => ?_)
      · exact gg_eq (congrArg some (if_pos ⟨h3, ⟨h4, h5⟩⟩)) hA1
      · exact gg_eq (congrArg some (if_neg (fun z => (fun z => h5 z.2) z.2))) hB2
    · exact gg_eq (congrArg some (if_neg (fun z => (fun z => h4 z.1) z.2))) hB2
  · exact gg_eq (congrArg some (if_neg (fun z => h3 z.1))) hB2
def f_X3_hasPort (a : Nat) (p1 : Int32) (p2 : Int32) (σ : St) : Option (Int32) :=
  if 0 ≤ p2 then (
    Option.bind (f_X3_portsOf a p1 σ) fun x2 =>
    if p2 < x2 then (
      some (1 : Int32))
    else (
      some (0 : Int32)))
  else (
    some (0 : Int32))
set_option maxRecDepth 20000 in
theorem k_X3_hasPort (l : Launch) (w : Wo) {a : Nat} (ha : a ∈ st15_65) (p1 : Int32) (p2 : Int32) (σ : St) : K l w shC m_X3_hasPort 2 [.ref a, .int p1, .int p2] σ (f_X3_hasPort a p1 p2 σ) (rI σ) := by
  refine k_of (L := [some (.ref a), some (.int p1), some (.int p2)]) (plainFor_of_name (by decide +kernel)) 0 rfl (Nat.le_of_ble_eq_true rfl) ?_
  unfold f_X3_hasPort
  refine gg_st (go_iload_n 2 d_X3_hasPort_0 rfl rfl rfl) ?_
  refine gg_br (br_if_lt (tgt := 17) (pc' := 4) d_X3_hasPort_1 (by decide) rfl) (fun h1 => ?_) (fun h1 => ?_)
  · refine gg_st (go_iload_n 2 d_X3_hasPort_4 rfl rfl rfl) ?_
    refine gg_st (go_aload_n 0 d_X3_hasPort_5 rfl rfl rfl) ?_
    refine gg_st (go_iload_n 1 d_X3_hasPort_6 rfl rfl rfl) ?_
    refine gv_I (k_X3_portsOf l w ha p1 σ) cv_X3_34 (sC_st15_65_0 ha) (Nat.le_of_ble_eq_true rfl) rfl rfl (Nat.le_of_ble_eq_true rfl) d_X3_hasPort_7 rfl (fun x2 => ?_)
    refine gg_br (br_icmp_ge (tgt := 17) (pc' := 13) d_X3_hasPort_10 (by decide) rfl) (fun h3 => ?_) (fun h3 => ?_)
    · refine gg_st (go_iconst d_X3_hasPort_13 ci_1 rfl) ?_
      refine gg_st (go_goto (pc' := 18) d_X3_hasPort_14 (by decide)) ?_
      exact gg_zret (Or.inr rfl) rfl d_X3_hasPort_18 rfl
    · refine gg_st (go_iconst d_X3_hasPort_17 ci_0 rfl) ?_
      exact gg_zret (Or.inl rfl) rfl d_X3_hasPort_18 rfl
  · refine gg_st (go_iconst d_X3_hasPort_17 ci_0 rfl) ?_
    exact gg_zret (Or.inl rfl) rfl d_X3_hasPort_18 rfl
def f_X3_sortOf (a : Nat) (p1 : Int32) (p2 : Int32) (σ : St) : Option (Int32) :=
  Option.bind (
    if (0 ≤ p1) ∧ ((p1 < (16 : Int32)) ∧ ((0 ≤ p2) ∧ (p2 < (5 : Int32)))) then (
      some (1 : Int32))
    else (
      some (0 : Int32))) fun t1 =>
  if t1 = 0 then (
    some (0 : Int32))
  else (
    if inb ((p1 * (5 : Int32)) + p2) 80 then (
      some (σ.1 (a + 3) (ix ((p1 * (5 : Int32)) + p2))))
    else none)
set_option maxRecDepth 20000 in
theorem k_X3_sortOf (l : Launch) (w : Wo) {a : Nat} (ha : a ∈ st15_65) (p1 : Int32) (p2 : Int32) (σ : St) : K l w shC m_X3_sortOf 1 [.ref a, .int p1, .int p2] σ (f_X3_sortOf a p1 p2 σ) (rI σ) := by
  refine k_of (L := [some (.ref a), some (.int p1), some (.int p2), none]) (plainFor_of_name (by decide +kernel)) 1 rfl (Nat.le_of_ble_eq_true rfl) ?_
  unfold f_X3_sortOf
  refine gg_st (go_iload_n 1 d_X3_sortOf_0 rfl rfl rfl) ?_
  refine gg_bind 24 (fun (t1 : Int32) => [some (.ref a), some (.int p1), some (.int p2), none]) (fun (t1 : Int32) => [.int t1]) (fun (t1 : Int32) => σ) ?_ (fun t1 => ?_)
  · refine gg_two (c := (0 ≤ p1) ∧ ((p1 < (16 : Int32)) ∧ ((0 ≤ p2) ∧ (p2 < (5 : Int32))))) (pA := 19) (pB := 23) (LL := [some (.ref a), some (.int p1), some (.int p2), none]) (ss := []) ?_ ?_ (fun hA2 hB3 => ?_)
    · refine gg_st (go_iconst d_X3_sortOf_19 ci_1 rfl) ?_
      refine gg_st (go_goto (pc' := 24) d_X3_sortOf_20 (by decide)) ?_
      exact gg_end rfl
    · refine gg_st (go_iconst d_X3_sortOf_23 ci_0 rfl) ?_
      exact gg_end rfl
    refine gg_brs (br_if_lt (tgt := 23) (pc' := 4) d_X3_sortOf_1 (by decide) rfl) (fun h4 => ?_) (fun h4 => ?_)
    · refine gg_st (go_iload_n 1 d_X3_sortOf_4 rfl rfl rfl) ?_
      refine gg_st (go_bipush d_X3_sortOf_5 cb_16 rfl) ?_
      refine gg_brs (br_icmp_ge (tgt := 23) (pc' := 10) d_X3_sortOf_7 (by decide) rfl) (fun h5 => ?_) (fun h5 => ?_)
      · refine gg_st (go_iload_n 2 d_X3_sortOf_10 rfl rfl rfl) ?_
        refine gg_brs (br_if_lt (tgt := 23) (pc' := 14) d_X3_sortOf_11 (by decide) rfl) (fun h6 => ?_) (fun h6 => ?_)
        · refine gg_st (go_iload_n 2 d_X3_sortOf_14 rfl rfl rfl) ?_
          refine gg_st (go_iconst d_X3_sortOf_15 ci_5 rfl) ?_
          refine gg_brs (br_icmp_ge (tgt := 23) (pc' := 19) d_X3_sortOf_16 (by decide) rfl) (fun h7 => ?_) (fun h7 => ?_)
          · exact gg_eq (if_pos ⟨h4, ⟨h5, ⟨h6, h7⟩⟩⟩) hA2
          · exact gg_eq (if_neg (fun z => (fun z => (fun z => h7 z.2) z.2) z.2)) hB3
        · exact gg_eq (if_neg (fun z => (fun z => (fun z => h6 z.1) z.2) z.2)) hB3
      · exact gg_eq (if_neg (fun z => (fun z => h5 z.1) z.2)) hB3
    · exact gg_eq (if_neg (fun z => h4 z.1)) hB3
  · refine gg_st (go_istore_n 3 d_X3_sortOf_24 rfl (by decide) (L' := [some (.ref a), some (.int p1), some (.int p2), some (.int t1)]) rfl rfl) ?_
    refine gg_st (go_iload_n 3 d_X3_sortOf_25 rfl rfl rfl) ?_
    refine gg_br (br_if_eq (tgt := 42) (pc' := 29) d_X3_sortOf_26 (by decide) rfl) (fun h9 => ?_) (fun h9 => ?_)
    · refine gg_st (go_iconst d_X3_sortOf_42 ci_0 rfl) ?_
      exact gg_iret rfl d_X3_sortOf_43 rfl
    · refine gg_st (go_aload_n 0 d_X3_sortOf_29 rfl rfl rfl) ?_
      refine gg_st (go_getR (j := 2) cf3 (sC_st15_65_0 ha) rfl (by decide) fl_X3_19 d_X3_sortOf_30 rfl) ?_
      refine gg_st (go_iload_n 1 d_X3_sortOf_33 rfl rfl rfl) ?_
      refine gg_st (go_iconst d_X3_sortOf_34 ci_5 rfl) ?_
      refine gg_st (go_imul d_X3_sortOf_35 rfl) ?_
      refine gg_st (go_iload_n 2 d_X3_sortOf_36 rfl rfl rfl) ?_
      refine gg_st (go_iadd d_X3_sortOf_37 rfl) ?_
      refine gg_gd (fun h10 => ?_)
      refine gg_st (go_iald (sC_st15_65_3 ha) h10 d_X3_sortOf_38 rfl) ?_
      refine gg_st (go_goto (pc' := 43) d_X3_sortOf_39 (by decide)) ?_
      exact gg_iret rfl d_X3_sortOf_43 rfl
def f_X11_kind (F : Nat) (p1 : Int32) (p2 : Int32) (σ : St) : Option (Int32) :=
  Option.bind (some (f_X3_has (65) p1 σ)) fun x1 =>
  if x1 = 0 then (
    some (-1001 : Int32))
  else (
    if (0 ≤ p2) ∧ (¬ ((6 : Int32) < p2)) then (
      if p2 = 0 then (
        Option.bind (f_X3_portsOf (65) p1 σ) fun x4 =>
        some x4)
      else (
        if p2 = (1 : Int32) then (
          Option.bind (f_X4_countOfKind F (77) p1 σ) fun x6 =>
          some x6)
        else (
          Option.bind (f_X3_hasPort (65) p1 (p2 - (2 : Int32)) σ) fun x7 =>
          if x7 = 0 then (
            some (-100 : Int32))
          else (
            Option.bind (f_X3_sortOf (65) p1 (p2 - (2 : Int32)) σ) fun x9 =>
            some x9))))
    else (
      some (-1002 : Int32)))
set_option maxRecDepth 20000 in
theorem k_X11_kind (l : Launch) (w : Wo) (F : Nat) (p1 : Int32) (p2 : Int32) (σ : St) : K l w shC m_X11_kind 3 [.ref (0), .int p1, .int p2] σ (f_X11_kind F p1 p2 σ) (rI σ) := by
  refine k_of (L := [some (.ref (0)), some (.int p1), some (.int p2)]) (plainFor_of_name (by decide +kernel)) 0 rfl (Nat.le_of_ble_eq_true rfl) ?_
  unfold f_X11_kind
  refine gg_st (go_aload_n 0 d_X11_kind_0 rfl rfl rfl) ?_
  refine gg_st (go_getR (j := 8) cf11 sC_0 rfl (by decide) fl_X11_61 d_X11_kind_1 rfl) ?_
  refine gg_st (go_getR (j := 0) cf0 sC_64 rfl (by decide) fl_X11_108 d_X11_kind_4 rfl) ?_
  refine gg_st (go_iload_n 1 d_X11_kind_7 rfl rfl rfl) ?_
  refine gv_I (k_X3_has l w (show 65 ∈ st15_65 by decide) p1 σ) cv_X11_150 sC_65 (Nat.le_of_ble_eq_true rfl) rfl rfl (Nat.le_of_ble_eq_true rfl) d_X11_kind_8 rfl (fun x1 => ?_)
  refine gg_br (br_if_ne (tgt := 18) (pc' := 14) d_X11_kind_11 (by decide) rfl) (fun h2 => ?_) (fun h2 => ?_)
  · refine gg_st (go_sipush d_X11_kind_14 cs_m1001 rfl) ?_
    exact gg_iret rfl d_X11_kind_17 rfl
  · refine gg_st (go_iload_n 2 d_X11_kind_18 rfl rfl rfl) ?_
    refine gg_two (c := (0 ≤ p2) ∧ (¬ ((6 : Int32) < p2))) (pA := 32) (pB := 28) (LL := [some (.ref (0)), some (.int p1), some (.int p2)]) (ss := []) ?_ ?_ (fun hA10 hB11 => ?_)
    · refine gg_st (go_iload_n 2 d_X11_kind_32 rfl rfl rfl) ?_
      refine gg_br (br_if_ne (tgt := 48) (pc' := 36) d_X11_kind_33 (by decide) rfl) (fun h3 => ?_) (fun h3 => ?_)
      · refine gg_st (go_aload_n 0 d_X11_kind_36 rfl rfl rfl) ?_
        refine gg_st (go_getR (j := 8) cf11 sC_0 rfl (by decide) fl_X11_61 d_X11_kind_37 rfl) ?_
        refine gg_st (go_getR (j := 0) cf0 sC_64 rfl (by decide) fl_X11_108 d_X11_kind_40 rfl) ?_
        refine gg_st (go_iload_n 1 d_X11_kind_43 rfl rfl rfl) ?_
        refine gv_I (k_X3_portsOf l w (show 65 ∈ st15_65 by decide) p1 σ) cv_X11_153 sC_65 (Nat.le_of_ble_eq_true rfl) rfl rfl (Nat.le_of_ble_eq_true rfl) d_X11_kind_44 rfl (fun x4 => ?_)
        exact gg_iret rfl d_X11_kind_47 rfl
      · refine gg_st (go_iload_n 2 d_X11_kind_48 rfl rfl rfl) ?_
        refine gg_st (go_iconst d_X11_kind_49 ci_1 rfl) ?_
        refine gg_br (br_icmp_ne (tgt := 65) (pc' := 53) d_X11_kind_50 (by decide) rfl) (fun h5 => ?_) (fun h5 => ?_)
        · refine gg_st (go_aload_n 0 d_X11_kind_53 rfl rfl rfl) ?_
          refine gg_st (go_getR (j := 8) cf11 sC_0 rfl (by decide) fl_X11_61 d_X11_kind_54 rfl) ?_
          refine gg_st (go_getR (j := 2) cf0 sC_64 rfl (by decide) fl_X11_92 d_X11_kind_57 rfl) ?_
          refine gg_st (go_iload_n 1 d_X11_kind_60 rfl rfl rfl) ?_
          refine gv_I (k_X4_countOfKind l w F (show 77 ∈ st39_43_47_51_77 by decide) p1 σ) cv_X11_157 sC_77 (Nat.le_of_ble_eq_true rfl) rfl rfl (Nat.le_of_ble_eq_true rfl) d_X11_kind_61 rfl (fun x6 => ?_)
          exact gg_iret rfl d_X11_kind_64 rfl
        · refine gg_st (go_aload_n 0 d_X11_kind_65 rfl rfl rfl) ?_
          refine gg_st (go_getR (j := 8) cf11 sC_0 rfl (by decide) fl_X11_61 d_X11_kind_66 rfl) ?_
          refine gg_st (go_getR (j := 0) cf0 sC_64 rfl (by decide) fl_X11_108 d_X11_kind_69 rfl) ?_
          refine gg_st (go_iload_n 1 d_X11_kind_72 rfl rfl rfl) ?_
          refine gg_st (go_iload_n 2 d_X11_kind_73 rfl rfl rfl) ?_
          refine gg_st (go_iconst d_X11_kind_74 ci_2 rfl) ?_
          refine gg_st (go_isub d_X11_kind_75 rfl) ?_
          refine gv_I (k_X3_hasPort l w (show 65 ∈ st15_65 by decide) p1 (p2 - (2 : Int32)) σ) cv_X11_160 sC_65 (Nat.le_of_ble_eq_true rfl) rfl rfl (Nat.le_of_ble_eq_true rfl) d_X11_kind_76 rfl (fun x7 => ?_)
          refine gg_br (br_if_eq (tgt := 99) (pc' := 82) d_X11_kind_79 (by decide) rfl) (fun h8 => ?_) (fun h8 => ?_)
          · refine gg_st (go_bipush d_X11_kind_99 cb_m100 rfl) ?_
            exact gg_iret rfl d_X11_kind_101 rfl
          · refine gg_st (go_aload_n 0 d_X11_kind_82 rfl rfl rfl) ?_
            refine gg_st (go_getR (j := 8) cf11 sC_0 rfl (by decide) fl_X11_61 d_X11_kind_83 rfl) ?_
            refine gg_st (go_getR (j := 0) cf0 sC_64 rfl (by decide) fl_X11_108 d_X11_kind_86 rfl) ?_
            refine gg_st (go_iload_n 1 d_X11_kind_89 rfl rfl rfl) ?_
            refine gg_st (go_iload_n 2 d_X11_kind_90 rfl rfl rfl) ?_
            refine gg_st (go_iconst d_X11_kind_91 ci_2 rfl) ?_
            refine gg_st (go_isub d_X11_kind_92 rfl) ?_
            refine gv_I (k_X3_sortOf l w (show 65 ∈ st15_65 by decide) p1 (p2 - (2 : Int32)) σ) cv_X11_164 sC_65 (Nat.le_of_ble_eq_true rfl) rfl rfl (Nat.le_of_ble_eq_true rfl) d_X11_kind_93 rfl (fun x9 => ?_)
            refine gg_st (go_goto (pc' := 101) d_X11_kind_96 (by decide)) ?_
            exact gg_iret rfl d_X11_kind_101 rfl
    · refine gg_st (go_sipush d_X11_kind_28 cs_m1002 rfl) ?_
      exact gg_iret rfl d_X11_kind_31 rfl
    refine gg_brs (br_if_lt (tgt := 28) (pc' := 22) d_X11_kind_19 (by decide) rfl) (fun h12 => ?_) (fun h12 => ?_)
    · refine gg_st (go_iload_n 2 d_X11_kind_22 rfl rfl rfl) ?_
      refine gg_st (go_bipush d_X11_kind_23 cb_6 rfl) ?_
      refine gg_brs (br_icmp_le (tgt := 32) (pc' := 28) d_X11_kind_25 (by decide) rfl) (fun h13 => ?_) (fun h13 => ?_)
      · exact gg_eq (if_neg (fun z => (fun z => z h13) z.2)) hB11
      · exact gg_eq (if_pos ⟨h12, h13⟩) hA10
    · exact gg_eq (if_neg (fun z => h12 z.1)) hB11
def f_X11_like (F : Nat) (p1 : Int32) (σ : St) : Option (Int32 × St) :=
  Option.bind (f_X11_shelfAt p1) fun x1 =>
  match x1 with
  | none => (
    some ((-1001 : Int32), σ))
  | some b2 => (
    if (σ.1 b2 7) = 0 then (
      some ((-1003 : Int32), σ))
    else (
      Option.bind (f_X10_reachAll F (56) (77) σ) fun s4 =>
      Option.bind (f_X10_reachAll F (59) b2 s4) fun s5 =>
      Option.bind (f_X10_isLike F b2 s5) fun x6 =>
      if x6 = 0 then (
        some ((0 : Int32), s5))
      else (
        some ((1 : Int32), s5))))
set_option maxRecDepth 20000 in
theorem k_X11_like (l : Launch) (w : Wo) (F : Nat) (p1 : Int32) (σ : St) : K l w shC m_X11_like 5 [.ref (0), .int p1] σ (f_X11_like F p1 σ) (rIS) := by
  refine k_of (L := [some (.ref (0)), some (.int p1), none]) (plainFor_of_name (by decide +kernel)) 1 rfl (Nat.le_of_ble_eq_true rfl) ?_
  unfold f_X11_like
  refine gg_st (go_aload_n 0 d_X11_like_0 rfl rfl rfl) ?_
  refine gg_st (go_iload_n 1 d_X11_like_1 rfl rfl rfl) ?_
  refine gv_AX (k_X11_shelfAt l w p1 σ) cv_X11_208 sC_0 (Nat.le_of_ble_eq_true rfl) rfl rfl (Nat.le_of_ble_eq_true rfl) d_X11_like_2 rfl ?_ (fun b2 b2q => ?_)
  · refine gg_st (go_astore_nN 2 d_X11_like_5 rfl (by decide) (L' := [some (.ref (0)), some (.int p1), some (.null)]) rfl rfl) ?_
    refine gg_st (go_aload_nN 2 d_X11_like_6 rfl rfl rfl) ?_
    refine gg_st (go_ifnonnullN d_X11_like_7 rfl) ?_
    refine gg_st (go_sipush d_X11_like_10 cs_m1001 rfl) ?_
    exact gg_iret rfl d_X11_like_13 rfl
  · have hb2 := shelf_mem b2q
    refine gg_st (go_astore_n 2 d_X11_like_5 rfl (by decide) (L' := [some (.ref (0)), some (.int p1), some (.ref b2)]) rfl rfl) ?_
    refine gg_st (go_aload_n 2 d_X11_like_6 rfl rfl rfl) ?_
    refine gg_st (go_ifnonnull (pc' := 14) d_X11_like_7 (by decide)) ?_
    refine gg_st (go_aload_n 2 d_X11_like_14 rfl rfl rfl) ?_
    refine gg_st (go_getI (j := 7) cf4 (sC_st39_43_47_51_0 hb2) rfl (by decide) fl_X11_216 d_X11_like_15 rfl) ?_
    refine gg_br (br_if_ne (tgt := 25) (pc' := 21) d_X11_like_18 (by decide) rfl) (fun h3 => ?_) (fun h3 => ?_)
    · refine gg_st (go_sipush d_X11_like_21 cs_m1003 rfl) ?_
      exact gg_iret rfl d_X11_like_24 rfl
    · refine gg_st (go_aload_n 0 d_X11_like_25 rfl rfl rfl) ?_
      refine gg_st (go_getR (j := 5) cf11 sC_0 rfl (by decide) fl_X11_44 d_X11_like_26 rfl) ?_
      refine gg_st (go_aload_n 0 d_X11_like_29 rfl rfl rfl) ?_
      refine gg_st (go_getR (j := 8) cf11 sC_0 rfl (by decide) fl_X11_61 d_X11_like_30 rfl) ?_
      refine gg_st (go_getR (j := 2) cf0 sC_64 rfl (by decide) fl_X11_92 d_X11_like_33 rfl) ?_
      refine gg_st (go_aload_n 0 d_X11_like_36 rfl rfl rfl) ?_
      refine gg_st (go_getR (j := 8) cf11 sC_0 rfl (by decide) fl_X11_61 d_X11_like_37 rfl) ?_
      refine gg_st (go_getR (j := 0) cf0 sC_64 rfl (by decide) fl_X11_108 d_X11_like_40 rfl) ?_
      refine gv_V (k_X10_reachAll l w F (show 56 ∈ st56_59 by decide) (show 77 ∈ st39_43_47_51_77 by decide) σ) cv_X11_219 sC_56 (Nat.le_of_ble_eq_true rfl) rfl rfl (Nat.le_of_ble_eq_true rfl) d_X11_like_43 rfl (fun s4 => ?_)
      refine gg_st (go_aload_n 0 d_X11_like_46 rfl rfl rfl) ?_
      refine gg_st (go_getR (j := 6) cf11 sC_0 rfl (by decide) fl_X11_48 d_X11_like_47 rfl) ?_
      refine gg_st (go_aload_n 2 d_X11_like_50 rfl rfl rfl) ?_
      refine gg_st (go_aload_n 0 d_X11_like_51 rfl rfl rfl) ?_
      refine gg_st (go_getR (j := 8) cf11 sC_0 rfl (by decide) fl_X11_61 d_X11_like_52 rfl) ?_
      refine gg_st (go_getR (j := 0) cf0 sC_64 rfl (by decide) fl_X11_108 d_X11_like_55 rfl) ?_
      refine gv_V (k_X10_reachAll l w F (show 59 ∈ st56_59 by decide) (sub_st39_43_47_51_st39_43_47_51_77 _ hb2) s4) cv_X11_219 sC_59 (Nat.le_of_ble_eq_true rfl) rfl rfl (Nat.le_of_ble_eq_true rfl) d_X11_like_58 rfl (fun s5 => ?_)
      refine gg_st (go_aload_n 0 d_X11_like_61 rfl rfl rfl) ?_
      refine gg_st (go_getR (j := 5) cf11 sC_0 rfl (by decide) fl_X11_44 d_X11_like_62 rfl) ?_
      refine gg_st (go_aload_n 0 d_X11_like_65 rfl rfl rfl) ?_
      refine gg_st (go_getR (j := 8) cf11 sC_0 rfl (by decide) fl_X11_61 d_X11_like_66 rfl) ?_
      refine gg_st (go_getR (j := 2) cf0 sC_64 rfl (by decide) fl_X11_92 d_X11_like_69 rfl) ?_
      refine gg_st (go_aload_n 0 d_X11_like_72 rfl rfl rfl) ?_
      refine gg_st (go_getR (j := 6) cf11 sC_0 rfl (by decide) fl_X11_48 d_X11_like_73 rfl) ?_
      refine gg_st (go_aload_n 2 d_X11_like_76 rfl rfl rfl) ?_
      refine gg_st (go_aload_n 0 d_X11_like_77 rfl rfl rfl) ?_
      refine gg_st (go_getR (j := 8) cf11 sC_0 rfl (by decide) fl_X11_61 d_X11_like_78 rfl) ?_
      refine gg_st (go_getR (j := 0) cf0 sC_64 rfl (by decide) fl_X11_108 d_X11_like_81 rfl) ?_
      refine gv_I (k_X10_isLike l w F hb2 s5) cv_X11_223 sC_56 (Nat.le_of_ble_eq_true rfl) rfl rfl (Nat.le_of_ble_eq_true rfl) d_X11_like_84 rfl (fun x6 => ?_)
      refine gg_br (br_if_eq (tgt := 94) (pc' := 90) d_X11_like_87 (by decide) rfl) (fun h7 => ?_) (fun h7 => ?_)
      · refine gg_st (go_iconst d_X11_like_94 ci_0 rfl) ?_
        exact gg_iret rfl d_X11_like_95 rfl
      · refine gg_st (go_iconst d_X11_like_90 ci_1 rfl) ?_
        refine gg_st (go_goto (pc' := 95) d_X11_like_91 (by decide)) ?_
        exact gg_iret rfl d_X11_like_95 rfl
def f_X5_byteAt (p1 : Int32) (σ : St) : Option (Int32) :=
  Option.bind (some (f_X11_isInside p1 (σ.1 (62) 1))) fun x1 =>
  if (x1 = 0) ∨ (¬ (p1 < (4000 : Int32))) then (
    some (-1 : Int32))
  else (
    if inb p1 4000 then (
      some ((σ.1 (63) (ix p1)) &&& (255 : Int32)))
    else none)
set_option maxRecDepth 20000 in
theorem k_X5_byteAt (l : Launch) (w : Wo) (p1 : Int32) (σ : St) : K l w shC m_X5_byteAt 2 [.ref (62), .int p1] σ (f_X5_byteAt p1 σ) (rI σ) := by
  refine k_of (L := [some (.ref (62)), some (.int p1)]) (plainFor_of_name (by decide +kernel)) 0 rfl (Nat.le_of_ble_eq_true rfl) ?_
  unfold f_X5_byteAt
  refine gg_st (go_iload_n 1 d_X5_byteAt_0 rfl rfl rfl) ?_
  refine gg_st (go_aload_n 0 d_X5_byteAt_1 rfl rfl rfl) ?_
  refine gg_st (go_getI (j := 1) cf5 sC_62 rfl (by decide) fl_X5_15 d_X5_byteAt_2 rfl) ?_
  refine gs_I (k_X11_isInside l w p1 (σ.1 (62) 1) σ) cs_X5_19 (Nat.le_of_ble_eq_true rfl) rfl rfl (Nat.le_of_ble_eq_true rfl) d_X5_byteAt_5 rfl (fun x1 => ?_)
  refine gg_two (c := (x1 = 0) ∨ (¬ (p1 < (4000 : Int32)))) (pA := 31) (pB := 18) (LL := [some (.ref (62)), some (.int p1)]) (ss := []) ?_ ?_ (fun hA4 hB5 => ?_)
  · refine gg_st (go_iconst d_X5_byteAt_31 ci_m1 rfl) ?_
    exact gg_iret rfl d_X5_byteAt_32 rfl
  · refine gg_st (go_aload_n 0 d_X5_byteAt_18 rfl rfl rfl) ?_
    refine gg_st (go_getR (j := 0) cf5 sC_62 rfl (by decide) fl_X5_9 d_X5_byteAt_19 rfl) ?_
    refine gg_st (go_iload_n 1 d_X5_byteAt_22 rfl rfl rfl) ?_
    refine gg_gd (fun h3 => ?_)
    refine gg_st (go_bald sC_63 h3 d_X5_byteAt_23 rfl) ?_
    refine gg_st (go_sipush d_X5_byteAt_24 cs_255 rfl) ?_
    refine gg_st (go_iand d_X5_byteAt_27 rfl) ?_
    refine gg_st (go_goto (pc' := 32) d_X5_byteAt_28 (by decide)) ?_
    exact gg_iret rfl d_X5_byteAt_32 rfl
  refine gg_brs (br_if_eq (tgt := 31) (pc' := 11) d_X5_byteAt_8 (by decide) rfl) (fun h6 => ?_) (fun h6 => ?_)
  · exact gg_eq (if_pos (Or.inl h6)) hA4
  · refine gg_st (go_iload_n 1 d_X5_byteAt_11 rfl rfl rfl) ?_
    refine gg_st (go_sipush d_X5_byteAt_12 cs_4000 rfl) ?_
    refine gg_brs (br_icmp_ge (tgt := 31) (pc' := 18) d_X5_byteAt_15 (by decide) rfl) (fun h7 => ?_) (fun h7 => ?_)
    · exact gg_eq (if_neg (fun z => z.elim h6 (fun z => z h7))) hB5
    · exact gg_eq (if_pos (Or.inr h7)) hA4
def f_X11_out (p1 : Int32) (σ : St) : Option (Int32) :=
  Option.bind (f_X5_byteAt p1 σ) fun x1 =>
  some x1
set_option maxRecDepth 20000 in
theorem k_X11_out (l : Launch) (w : Wo) (p1 : Int32) (σ : St) : K l w shC m_X11_out 3 [.ref (0), .int p1] σ (f_X11_out p1 σ) (rI σ) := by
  refine k_of (L := [some (.ref (0)), some (.int p1)]) (plainFor_of_name (by decide +kernel)) 0 rfl (Nat.le_of_ble_eq_true rfl) ?_
  unfold f_X11_out
  refine gg_st (go_aload_n 0 d_X11_out_0 rfl rfl rfl) ?_
  refine gg_st (go_getR (j := 7) cf11 sC_0 rfl (by decide) fl_X11_54 d_X11_out_1 rfl) ?_
  refine gg_st (go_iload_n 1 d_X11_out_4 rfl rfl rfl) ?_
  refine gv_I (k_X5_byteAt l w p1 σ) cv_X11_232 sC_62 (Nat.le_of_ble_eq_true rfl) rfl rfl (Nat.le_of_ble_eq_true rfl) d_X11_out_5 rfl (fun x1 => ?_)
  exact gg_iret rfl d_X11_out_8 rfl
def f_X11_pair (F : Nat) (p1 : Int32) (σ : St) : Option (Int32) :=
  Option.bind (f_X0_alivePairAt F p1 σ) fun x1 =>
  some x1
set_option maxRecDepth 20000 in
theorem k_X11_pair (l : Launch) (w : Wo) (F : Nat) (p1 : Int32) (σ : St) : K l w shC m_X11_pair 6 [.ref (0), .int p1] σ (f_X11_pair F p1 σ) (rI σ) := by
  refine k_of (L := [some (.ref (0)), some (.int p1)]) (plainFor_of_name (by decide +kernel)) 0 rfl (Nat.le_of_ble_eq_true rfl) ?_
  unfold f_X11_pair
  refine gg_st (go_aload_n 0 d_X11_pair_0 rfl rfl rfl) ?_
  refine gg_st (go_getR (j := 8) cf11 sC_0 rfl (by decide) fl_X11_61 d_X11_pair_1 rfl) ?_
  refine gg_st (go_iload_n 1 d_X11_pair_4 rfl rfl rfl) ?_
  refine gv_I (k_X0_alivePairAt l w F p1 σ) cv_X11_190 sC_64 (Nat.le_of_ble_eq_true rfl) rfl rfl (Nat.le_of_ble_eq_true rfl) d_X11_pair_5 rfl (fun x1 => ?_)
  exact gg_iret rfl d_X11_pair_8 rfl
def f_X11_place (σ : St) : Int32 :=
  σ.1 (1) 7
set_option maxRecDepth 20000 in
theorem k_X11_place (l : Launch) (w : Wo) (σ : St) : K l w shC m_X11_place 1 [.ref (0)] σ (some (f_X11_place σ)) (rI σ) := by
  refine k_of (L := [some (.ref (0))]) (plainFor_of_name (by decide +kernel)) 0 rfl (Nat.le_of_ble_eq_true rfl) ?_
  unfold f_X11_place
  refine gg_st (go_aload_n 0 d_X11_place_0 rfl rfl rfl) ?_
  refine gg_st (go_getR (j := 0) cf11 sC_0 rfl (by decide) fl_X11_12 d_X11_place_1 rfl) ?_
  refine gg_st (go_getI (j := 7) cf6 sC_1 rfl (by decide) fl_X11_105 d_X11_place_4 rfl) ?_
  exact gg_iret rfl d_X11_place_7 rfl
def f_X5_put (p1 : Int32) (σ : St) : Option (St) :=
  if (σ.1 (62) 1) < (4000 : Int32) then (
    if inb (σ.1 (62) 1) 4000 then (
      Option.bind (some (seti σ (63) (ix (σ.1 (62) 1)) ((p1.toInt8.toInt32).toInt8.toInt32))) fun s5 =>
      Option.bind (some (seti s5 (62) 1 ((s5.1 (62) 1) + (1 : Int32)))) fun s6 =>
      some s6)
    else none)
  else (
    some σ)
set_option maxRecDepth 20000 in
theorem k_X5_put (l : Launch) (w : Wo) (p1 : Int32) (σ : St) : K l w shC m_X5_put 1 [.ref (62), .int p1] σ (f_X5_put p1 σ) (rV) := by
  refine k_of (L := [some (.ref (62)), some (.int p1)]) (plainFor_of_name (by decide +kernel)) 0 rfl (Nat.le_of_ble_eq_true rfl) ?_
  unfold f_X5_put
  refine gg_st (go_aload_n 0 d_X5_put_0 rfl rfl rfl) ?_
  refine gg_st (go_getI (j := 1) cf5 sC_62 rfl (by decide) fl_X5_15 d_X5_put_1 rfl) ?_
  refine gg_st (go_sipush d_X5_put_4 cs_4000 rfl) ?_
  refine gg_br (br_icmp_ge (tgt := 31) (pc' := 10) d_X5_put_7 (by decide) rfl) (fun h3 => ?_) (fun h3 => ?_)
  · refine gg_st (go_aload_n 0 d_X5_put_10 rfl rfl rfl) ?_
    refine gg_st (go_getR (j := 0) cf5 sC_62 rfl (by decide) fl_X5_9 d_X5_put_11 rfl) ?_
    refine gg_st (go_aload_n 0 d_X5_put_14 rfl rfl rfl) ?_
    refine gg_st (go_getI (j := 1) cf5 sC_62 rfl (by decide) fl_X5_15 d_X5_put_15 rfl) ?_
    refine gg_st (go_iload_n 1 d_X5_put_18 rfl rfl rfl) ?_
    refine gg_st (go_i2b d_X5_put_19 rfl) ?_
    refine gg_gd (fun h4 => ?_)
    refine gg_st (go_bast sC_63 h4 d_X5_put_20 rfl) ?_
    refine gg_som (fun s5 => ?_)
    refine gg_st (go_aload_n 0 d_X5_put_21 rfl rfl rfl) ?_
    refine gg_st (go_dup d_X5_put_22 rfl rfl) ?_
    refine gg_st (go_getI (j := 1) cf5 sC_62 rfl (by decide) fl_X5_15 d_X5_put_23 rfl) ?_
    refine gg_st (go_iconst d_X5_put_26 ci_1 rfl) ?_
    refine gg_st (go_iadd d_X5_put_27 rfl) ?_
    refine gg_st (go_putI (j := 1) cf5 sC_62 rfl (by decide) rfl rfl fl_X5_15 d_X5_put_28 rfl) ?_
    refine gg_som (fun s6 => ?_)
    exact gg_vret rfl d_X5_put_31 rfl
  · exact gg_vret rfl d_X5_put_31 rfl
def f_X3_nameOf (p1 : Int32) (σ : St) : Option (Int64) :=
  Option.bind (some (f_X3_has (65) p1 σ)) fun x1 =>
  if x1 = 0 then (
    some (0 : Int64))
  else (
    if inb p1 16 then (
      some (σ.2 (66) (ix p1)))
    else none)
set_option maxRecDepth 20000 in
theorem k_X3_nameOf (l : Launch) (w : Wo) (p1 : Int32) (σ : St) : K l w shC m_X3_nameOf 2 [.ref (65), .int p1] σ (f_X3_nameOf p1 σ) (rJ σ) := by
  refine k_of (L := [some (.ref (65)), some (.int p1)]) (plainFor_of_name (by decide +kernel)) 0 rfl (Nat.le_of_ble_eq_true rfl) ?_
  unfold f_X3_nameOf
  refine gg_st (go_aload_n 0 d_X3_nameOf_0 rfl rfl rfl) ?_
  refine gg_st (go_iload_n 1 d_X3_nameOf_1 rfl rfl rfl) ?_
  refine gv_I (k_X3_has l w (show 65 ∈ st15_65 by decide) p1 σ) cv_X3_30 sC_65 (Nat.le_of_ble_eq_true rfl) rfl rfl (Nat.le_of_ble_eq_true rfl) d_X3_nameOf_2 rfl (fun x1 => ?_)
  refine gg_br (br_if_eq (tgt := 17) (pc' := 8) d_X3_nameOf_5 (by decide) rfl) (fun h3 => ?_) (fun h3 => ?_)
  · refine gg_st (go_lconst d_X3_nameOf_17 (v := (0 : Int64)) (by decide) rfl) ?_
    exact gg_lret rfl d_X3_nameOf_18 rfl
  · refine gg_st (go_aload_n 0 d_X3_nameOf_8 rfl rfl rfl) ?_
    refine gg_st (go_getR (j := 0) cf3 sC_65 rfl (by decide) fl_X3_9 d_X3_nameOf_9 rfl) ?_
    refine gg_st (go_iload_n 1 d_X3_nameOf_12 rfl rfl rfl) ?_
    refine gg_gd (fun h4 => ?_)
    refine gg_st (go_lald sC_66 h4 d_X3_nameOf_13 rfl) ?_
    refine gg_st (go_goto (pc' := 18) d_X3_nameOf_14 (by decide)) ?_
    exact gg_lret rfl d_X3_nameOf_18 rfl
def f_X5_putName_L3 (F : Nat) (c1 : Int64) : Nat → Int32 → St → Option (St)
  | 0, _, _ => none
  | n + 1, v1, g =>
    if 0 ≤ v1 then (
      Option.bind (some ((((c1.toUInt64 >>> (v1.toInt64.toUInt64 &&& Int64.toUInt64 63)).toInt64).toInt32) &&& (255 : Int32))) fun x3 =>
      Option.bind (
        if x3 = 0 then (
          some g)
        else (
          Option.bind (f_X5_put x3 g) fun s6 =>
          some s6)) fun t4 =>
      f_X5_putName_L3 F c1 n (v1 + (-8 : Int32)) t4)
    else (
      some g)
def f_X5_putName (F : Nat) (p1 : Int64) (σ : St) : Option (St) :=
  Option.bind (f_X5_putName_L3 F p1 F (56 : Int32) σ) fun t7 =>
  some t7
set_option maxRecDepth 20000 in
theorem g_f_X5_putName_L3 (l : Launch) (w : Wo) (F : Nat) (c1 : Int64) : ∀ (n : Nat) (v1 : Int32) (g : St), GG l w shC m_X5_putName 2 3 [some (.ref (62)), some (.long c1), none, some (.int v1), none] [] g (f_X5_putName_L3 F c1 n v1 g) (fun (t : St) => .inl (34, [none, none, none, none, none], [], t)) := by
  intro n
  induction n with
  | zero =>
    intro v1 g
    exact gg_none
  | succ n ih =>
    intro v1 g
    rw [f_X5_putName_L3]
    refine gg_st (go_iload_n 3 d_X5_putName_3 rfl rfl rfl) ?_
    refine gg_br (br_if_lt (tgt := 34) (pc' := 7) d_X5_putName_4 (by decide) rfl) (fun h2 => ?_) (fun h2 => ?_)
    · refine gg_st (go_lload_n 1 d_X5_putName_7 rfl rfl rfl) ?_
      refine gg_st (go_iload_n 3 d_X5_putName_8 rfl rfl rfl) ?_
      refine gg_st (go_lushr d_X5_putName_9 rfl) ?_
      refine gg_st (go_l2i d_X5_putName_10 rfl) ?_
      refine gg_st (go_sipush d_X5_putName_11 cs_255 rfl) ?_
      refine gg_st (go_iand d_X5_putName_14 rfl) ?_
      refine gg_nm (fun _ => [some (.ref (62)), some (.long c1), none, some (.int v1), none]) (fun (x3 : Int32) => [.int x3]) (fun x3 => ?_)
      refine gg_st (go_istore 4 d_X5_putName_15 (by decide) (L' := [some (.ref (62)), some (.long c1), none, some (.int v1), some (.int x3)]) rfl rfl) ?_
      refine gg_st (go_iload 4 d_X5_putName_17 rfl rfl) ?_
      refine gg_bind 28 (fun (t4 : St) => [some (.ref (62)), some (.long c1), none, some (.int v1), none]) (fun (t4 : St) => []) (fun (t4 : St) => t4) ?_ (fun t4 => ?_)
      · refine gg_br (br_if_eq (tgt := 28) (pc' := 22) d_X5_putName_19 (by decide) rfl) (fun h5 => ?_) (fun h5 => ?_)
        · refine gg_st (go_fg [some (.ref (62)), some (.long c1), none, some (.int v1), none] ⟨rfl, ⟨rfl, ⟨rfl, trivial⟩⟩⟩) ?_
          exact gg_end rfl
        · refine gg_st (go_aload_n 0 d_X5_putName_22 rfl rfl rfl) ?_
          refine gg_st (go_iload 4 d_X5_putName_23 rfl rfl) ?_
          refine gv_V (k_X5_put l w x3 g) cv_X5_23 sC_62 (Nat.le_of_ble_eq_true rfl) rfl rfl (Nat.le_of_ble_eq_true rfl) d_X5_putName_25 rfl (fun s6 => ?_)
          refine gg_st (go_fg [some (.ref (62)), some (.long c1), none, some (.int v1), none] ⟨rfl, ⟨rfl, ⟨rfl, trivial⟩⟩⟩) ?_
          exact gg_end rfl
      · refine gg_st (go_iinc 3 d_X5_putName_28 rfl (v := v1 + (-8 : Int32)) (by rw [ci_m8]) (by decide) (L' := [some (.ref (62)), some (.long c1), none, some (.int (v1 + (-8 : Int32))), none]) rfl rfl) ?_
        refine gg_st (go_goto (pc' := 3) d_X5_putName_31 (by decide)) ?_
        exact ih (v1 + (-8 : Int32)) t4
    · refine gg_st (go_fg [none, none, none, none, none] trivial) ?_
      exact gg_end rfl
set_option maxRecDepth 20000 in
theorem k_X5_putName (l : Launch) (w : Wo) (F : Nat) (p1 : Int64) (σ : St) : K l w shC m_X5_putName 2 [.ref (62), .long p1] σ (f_X5_putName F p1 σ) (rV) := by
  refine k_of (L := [some (.ref (62)), some (.long p1), none, none, none]) (plainFor_of_name (by decide +kernel)) 2 rfl (Nat.le_of_ble_eq_true rfl) ?_
  unfold f_X5_putName
  refine gg_st (go_bipush d_X5_putName_0 cb_56 rfl) ?_
  refine gg_st (go_istore_n 3 d_X5_putName_2 rfl (by decide) (L' := [some (.ref (62)), some (.long p1), none, some (.int (56 : Int32)), none]) rfl rfl) ?_
  refine gg_bind 34 (fun (t7 : St) => [none, none, none, none, none]) (fun (t7 : St) => []) (fun (t7 : St) => t7) (g_f_X5_putName_L3 l w F p1 F (56 : Int32) σ) (fun t7 => ?_)
  exact gg_vret rfl d_X5_putName_34 rfl
def f_X5_putAgent_L37 (F : Nat) (rec : Int32 → Int32 → St → Option St) (c2 : Int32) (c3 : Int32) (c5 : Int32) : Nat → Int32 → St → Option (St)
  | 0, _, _ => none
  | n + 1, v5, g =>
    if v5 < c5 then (
      Option.bind (
        if v5 = (1 : Int32) then (
          some (40 : Int32))
        else (
          some (44 : Int32))) fun t7 =>
      Option.bind (f_X5_put t7 g) fun s9 =>
      Option.bind (some (f_X11_portCode c2 v5)) fun x10 =>
      Option.bind (f_X4_wireOf (77) x10 s9) fun x11 =>
      Option.bind (rec x11 (c3 + (1 : Int32)) s9) fun s12 =>
      f_X5_putAgent_L37 F rec c2 c3 c5 n (v5 + (1 : Int32)) s12)
    else (
      some g)
def f_X5_putAgent (F : Nat) (rec : Int32 → Int32 → St → Option St) (p1 : Int32) (p2 : Int32) (σ : St) : Option (St) :=
  Option.bind (f_X4_kindOf (77) p1 σ) fun x1 =>
  Option.bind (f_X3_nameOf x1 σ) fun x2 =>
  Option.bind (f_X5_putName F x2 σ) fun s3 =>
  Option.bind (f_X3_portsOf (65) x1 s3) fun x4 =>
  Option.bind (f_X5_putAgent_L37 F rec p1 p2 x4 F (1 : Int32) s3) fun t13 =>
  if (1 : Int32) < x4 then (
    Option.bind (f_X5_put (41 : Int32) t13) fun s15 =>
    some s15)
  else (
    some t13)
set_option maxRecDepth 20000 in
theorem g_f_X5_putAgent_L37 (l : Launch) (w : Wo) (F : Nat) (rec : Int32 → Int32 → St → Option St) (dr : Nat) (h_rec : ∀ p1 p2 σ, K l w shC m_X5_putTree dr [.ref 62, .ref 64, .int p1, .int p2] σ (rec p1 p2 σ) (rV)) (c2 : Int32) (c3 : Int32) (c5 : Int32) : ∀ (n : Nat) (v5 : Int32) (g : St), GG l w shC m_X5_putAgent (dr + 3) 37 [some (.ref (62)), some (.ref (64)), some (.int c2), some (.int c3), none, some (.int c5), some (.int v5)] [] g (f_X5_putAgent_L37 F rec c2 c3 c5 n v5 g) (fun (t : St) => .inl (88, [some (.ref (62)), none, none, none, none, some (.int c5), none], [], t)) := by
  intro n
  induction n with
  | zero =>
    intro v5 g
    exact gg_none
  | succ n ih =>
    intro v5 g
    rw [f_X5_putAgent_L37]
    refine gg_st (go_iload 6 d_X5_putAgent_37 rfl rfl) ?_
    refine gg_st (go_iload 5 d_X5_putAgent_39 rfl rfl) ?_
    refine gg_br (br_icmp_ge (tgt := 88) (pc' := 44) d_X5_putAgent_41 (by decide) rfl) (fun h6 => ?_) (fun h6 => ?_)
    · refine gg_st (go_aload_n 0 d_X5_putAgent_44 rfl rfl rfl) ?_
      refine gg_st (go_iload 6 d_X5_putAgent_45 rfl rfl) ?_
      refine gg_st (go_iconst d_X5_putAgent_47 ci_1 rfl) ?_
      refine gg_bind 58 (fun (t7 : Int32) => [some (.ref (62)), some (.ref (64)), some (.int c2), some (.int c3), none, some (.int c5), some (.int v5)]) (fun (t7 : Int32) => [.int t7, .ref (62)]) (fun (t7 : Int32) => g) ?_ (fun t7 => ?_)
      · refine gg_br (br_icmp_ne (tgt := 56) (pc' := 51) d_X5_putAgent_48 (by decide) rfl) (fun h8 => ?_) (fun h8 => ?_)
        · refine gg_st (go_bipush d_X5_putAgent_51 cb_40 rfl) ?_
          refine gg_st (go_goto (pc' := 58) d_X5_putAgent_53 (by decide)) ?_
          exact gg_end rfl
        · refine gg_st (go_bipush d_X5_putAgent_56 cb_44 rfl) ?_
          exact gg_end rfl
      · refine gv_V (k_X5_put l w t7 g) cv_X5_23 sC_62 (by omega) rfl rfl (Nat.le_of_ble_eq_true rfl) d_X5_putAgent_58 rfl (fun s9 => ?_)
        refine gg_st (go_aload_n 0 d_X5_putAgent_61 rfl rfl rfl) ?_
        refine gg_st (go_aload_n 1 d_X5_putAgent_62 rfl rfl rfl) ?_
        refine gg_st (go_aload_n 1 d_X5_putAgent_63 rfl rfl rfl) ?_
        refine gg_st (go_getR (j := 2) cf0 sC_64 rfl (by decide) fl_X5_41 d_X5_putAgent_64 rfl) ?_
        refine gg_st (go_iload_n 2 d_X5_putAgent_67 rfl rfl rfl) ?_
        refine gg_st (go_iload 6 d_X5_putAgent_68 rfl rfl) ?_
        refine gs_I (k_X11_portCode l w c2 v5 s9) cs_X5_69 (by omega) rfl rfl (Nat.le_of_ble_eq_true rfl) d_X5_putAgent_70 rfl (fun x10 => ?_)
        refine gv_I (k_X4_wireOf l w (show 77 ∈ st39_43_47_51_77 by decide) x10 s9) cv_X5_73 sC_77 (by omega) rfl rfl (Nat.le_of_ble_eq_true rfl) d_X5_putAgent_73 rfl (fun x11 => ?_)
        refine gg_st (go_iload_n 3 d_X5_putAgent_76 rfl rfl rfl) ?_
        refine gg_st (go_iconst d_X5_putAgent_77 ci_1 rfl) ?_
        refine gg_st (go_iadd d_X5_putAgent_78 rfl) ?_
        refine gv_V (h_rec x11 (c3 + (1 : Int32)) s9) cv_X5_76 sC_62 (by omega) rfl rfl (Nat.le_of_ble_eq_true rfl) d_X5_putAgent_79 rfl (fun s12 => ?_)
        refine gg_st (go_iinc 6 d_X5_putAgent_82 rfl (v := v5 + (1 : Int32)) (by rw [ci_1]) (by decide) (L' := [some (.ref (62)), some (.ref (64)), some (.int c2), some (.int c3), none, some (.int c5), some (.int (v5 + (1 : Int32)))]) rfl rfl) ?_
        refine gg_st (go_goto (pc' := 37) d_X5_putAgent_85 (by decide)) ?_
        exact ih (v5 + (1 : Int32)) s12
    · refine gg_st (go_fg [some (.ref (62)), none, none, none, none, some (.int c5), none] ⟨rfl, ⟨rfl, trivial⟩⟩) ?_
      exact gg_end rfl
set_option maxRecDepth 20000 in
theorem k_X5_putAgent (l : Launch) (w : Wo) (F : Nat) (rec : Int32 → Int32 → St → Option St) (dr : Nat) (h_rec : ∀ p1 p2 σ, K l w shC m_X5_putTree dr [.ref 62, .ref 64, .int p1, .int p2] σ (rec p1 p2 σ) (rV)) (p1 : Int32) (p2 : Int32) (σ : St) : K l w shC m_X5_putAgent (dr + 3) [.ref (62), .ref (64), .int p1, .int p2] σ (f_X5_putAgent F rec p1 p2 σ) (rV) := by
  refine k_of (L := [some (.ref (62)), some (.ref (64)), some (.int p1), some (.int p2), none, none, none]) (plainFor_of_name (by decide +kernel)) 3 rfl (Nat.le_of_ble_eq_true rfl) ?_
  unfold f_X5_putAgent
  refine gg_st (go_aload_n 1 d_X5_putAgent_0 rfl rfl rfl) ?_
  refine gg_st (go_getR (j := 2) cf0 sC_64 rfl (by decide) fl_X5_41 d_X5_putAgent_1 rfl) ?_
  refine gg_st (go_iload_n 2 d_X5_putAgent_4 rfl rfl rfl) ?_
  refine gv_I (k_X4_kindOf l w (show 77 ∈ st39_43_47_51_77 by decide) p1 σ) cv_X5_47 sC_77 (by omega) rfl rfl (Nat.le_of_ble_eq_true rfl) d_X5_putAgent_5 rfl (fun x1 => ?_)
  refine gg_st (go_istore 4 d_X5_putAgent_8 (by decide) (L' := [some (.ref (62)), some (.ref (64)), some (.int p1), some (.int p2), some (.int x1), none, none]) rfl rfl) ?_
  refine gg_st (go_aload_n 0 d_X5_putAgent_10 rfl rfl rfl) ?_
  refine gg_st (go_aload_n 1 d_X5_putAgent_11 rfl rfl rfl) ?_
  refine gg_st (go_getR (j := 0) cf0 sC_64 rfl (by decide) fl_X5_52 d_X5_putAgent_12 rfl) ?_
  refine gg_st (go_iload 4 d_X5_putAgent_15 rfl rfl) ?_
  refine gv_J (k_X3_nameOf l w x1 σ) cv_X5_56 sC_65 (by omega) rfl rfl (Nat.le_of_ble_eq_true rfl) d_X5_putAgent_17 rfl (fun x2 => ?_)
  refine gv_V (k_X5_putName l w F x2 σ) cv_X5_62 sC_62 (by omega) rfl rfl (Nat.le_of_ble_eq_true rfl) d_X5_putAgent_20 rfl (fun s3 => ?_)
  refine gg_st (go_aload_n 1 d_X5_putAgent_23 rfl rfl rfl) ?_
  refine gg_st (go_getR (j := 0) cf0 sC_64 rfl (by decide) fl_X5_52 d_X5_putAgent_24 rfl) ?_
  refine gg_st (go_iload 4 d_X5_putAgent_27 rfl rfl) ?_
  refine gv_I (k_X3_portsOf l w (show 65 ∈ st15_65 by decide) x1 s3) cv_X5_66 sC_65 (by omega) rfl rfl (Nat.le_of_ble_eq_true rfl) d_X5_putAgent_29 rfl (fun x4 => ?_)
  refine gg_st (go_istore 5 d_X5_putAgent_32 (by decide) (L' := [some (.ref (62)), some (.ref (64)), some (.int p1), some (.int p2), some (.int x1), some (.int x4), none]) rfl rfl) ?_
  refine gg_st (go_iconst d_X5_putAgent_34 ci_1 rfl) ?_
  refine gg_st (go_istore 6 d_X5_putAgent_35 (by decide) (L' := [some (.ref (62)), some (.ref (64)), some (.int p1), some (.int p2), some (.int x1), some (.int x4), some (.int (1 : Int32))]) rfl rfl) ?_
  refine gg_st (go_fg [some (.ref (62)), some (.ref (64)), some (.int p1), some (.int p2), none, some (.int x4), some (.int (1 : Int32))] ⟨rfl, ⟨rfl, ⟨rfl, ⟨rfl, ⟨rfl, ⟨rfl, trivial⟩⟩⟩⟩⟩⟩) ?_
  refine gg_bind 88 (fun (t13 : St) => [some (.ref (62)), none, none, none, none, some (.int x4), none]) (fun (t13 : St) => []) (fun (t13 : St) => t13) (g_f_X5_putAgent_L37 l w F rec dr h_rec p1 p2 x4 F (1 : Int32) s3) (fun t13 => ?_)
  refine gg_st (go_iload 5 d_X5_putAgent_88 rfl rfl) ?_
  refine gg_st (go_iconst d_X5_putAgent_90 ci_1 rfl) ?_
  refine gg_br (br_icmp_le (tgt := 100) (pc' := 94) d_X5_putAgent_91 (by decide) rfl) (fun h14 => ?_) (fun h14 => ?_)
  · refine gg_st (go_aload_n 0 d_X5_putAgent_94 rfl rfl rfl) ?_
    refine gg_st (go_bipush d_X5_putAgent_95 cb_41 rfl) ?_
    refine gv_V (k_X5_put l w (41 : Int32) t13) cv_X5_23 sC_62 (by omega) rfl rfl (Nat.le_of_ble_eq_true rfl) d_X5_putAgent_97 rfl (fun s15 => ?_)
    exact gg_vret rfl d_X5_putAgent_100 rfl
  · exact gg_vret rfl d_X5_putAgent_100 rfl
def f_X5_putTree (F : Nat) : Nat → Int32 → Int32 → St → Option (St)
  | 0, _, _, _ => none
  | D + 1, p1, p2, σ =>
    if p1 < 0 then (
      Option.bind (f_X5_put (35 : Int32) σ) fun s2 =>
      Option.bind (some (f_X11_endOf p1)) fun x3 =>
      Option.bind (f_X5_put ((48 : Int32) + x3) s2) fun s4 =>
      some s4)
    else (
      Option.bind (some (f_X11_portOf p1)) fun x5 =>
      if x5 = 0 then (
        if (40 : Int32) ≤ p2 then (
          Option.bind (f_X5_put (126 : Int32) σ) fun s8 =>
          some s8)
        else (
          Option.bind (some (f_X11_agentOf p1)) fun x9 =>
          Option.bind (f_X5_putAgent F (f_X5_putTree F D) x9 p2 σ) fun s10 =>
          some s10))
      else (
        Option.bind (f_X5_put (64 : Int32) σ) fun s11 =>
        some s11))
set_option maxRecDepth 20000 in
theorem k_X5_putTree (l : Launch) (w : Wo) (F : Nat) : ∀ (D : Nat) (p1 : Int32) (p2 : Int32) (σ : St), K l w shC m_X5_putTree (4 * (D + 1)) [.ref (62), .ref (64), .int p1, .int p2] σ (f_X5_putTree F D p1 p2 σ) (rV) := by
  intro D
  induction D with
  | zero =>
    intro p1 p2 σ
    exact k_none
  | succ D ih =>
    intro p1 p2 σ
    refine k_of (L := [some (.ref (62)), some (.ref (64)), some (.int p1), some (.int p2)]) (plainFor_of_name (by decide +kernel)) 0 rfl (Nat.le_of_ble_eq_true rfl) ?_
    rw [f_X5_putTree]
    refine gg_st (go_iload_n 2 d_X5_putTree_0 rfl rfl rfl) ?_
    refine gg_br (br_if_ge (tgt := 24) (pc' := 4) d_X5_putTree_1 (by decide) rfl) (fun h1 => ?_) (fun h1 => ?_)
    · refine gg_st (go_aload_n 0 d_X5_putTree_4 rfl rfl rfl) ?_
      refine gg_st (go_bipush d_X5_putTree_5 cb_35 rfl) ?_
      refine gv_V (k_X5_put l w (35 : Int32) σ) cv_X5_23 sC_62 (by omega) rfl rfl (Nat.le_of_ble_eq_true rfl) d_X5_putTree_7 rfl (fun s2 => ?_)
      refine gg_st (go_aload_n 0 d_X5_putTree_10 rfl rfl rfl) ?_
      refine gg_st (go_bipush d_X5_putTree_11 cb_48 rfl) ?_
      refine gg_st (go_iload_n 2 d_X5_putTree_13 rfl rfl rfl) ?_
      refine gs_I (k_X11_endOf l w p1 s2) cs_X5_27 (by omega) rfl rfl (Nat.le_of_ble_eq_true rfl) d_X5_putTree_14 rfl (fun x3 => ?_)
      refine gg_st (go_iadd d_X5_putTree_17 rfl) ?_
      refine gv_V (k_X5_put l w ((48 : Int32) + x3) s2) cv_X5_23 sC_62 (by omega) rfl rfl (Nat.le_of_ble_eq_true rfl) d_X5_putTree_18 rfl (fun s4 => ?_)
      refine gg_st (go_goto (pc' := 65) d_X5_putTree_21 (by decide)) ?_
      exact gg_vret rfl d_X5_putTree_65 rfl
    · refine gg_st (go_iload_n 2 d_X5_putTree_24 rfl rfl rfl) ?_
      refine gs_I (k_X11_portOf l w p1 σ) cs_X5_31 (by omega) rfl rfl (Nat.le_of_ble_eq_true rfl) d_X5_putTree_25 rfl (fun x5 => ?_)
      refine gg_br (br_if_eq (tgt := 40) (pc' := 31) d_X5_putTree_28 (by decide) rfl) (fun h6 => ?_) (fun h6 => ?_)
      · refine gg_st (go_iload_n 3 d_X5_putTree_40 rfl rfl rfl) ?_
        refine gg_st (go_bipush d_X5_putTree_41 cb_40 rfl) ?_
        refine gg_br (br_icmp_lt (tgt := 55) (pc' := 46) d_X5_putTree_43 (by decide) rfl) (fun h7 => ?_) (fun h7 => ?_)
        · refine gg_st (go_aload_n 0 d_X5_putTree_46 rfl rfl rfl) ?_
          refine gg_st (go_bipush d_X5_putTree_47 cb_126 rfl) ?_
          refine gv_V (k_X5_put l w (126 : Int32) σ) cv_X5_23 sC_62 (by omega) rfl rfl (Nat.le_of_ble_eq_true rfl) d_X5_putTree_49 rfl (fun s8 => ?_)
          refine gg_st (go_goto (pc' := 65) d_X5_putTree_52 (by decide)) ?_
          exact gg_vret rfl d_X5_putTree_65 rfl
        · refine gg_st (go_aload_n 0 d_X5_putTree_55 rfl rfl rfl) ?_
          refine gg_st (go_aload_n 1 d_X5_putTree_56 rfl rfl rfl) ?_
          refine gg_st (go_iload_n 2 d_X5_putTree_57 rfl rfl rfl) ?_
          refine gs_I (k_X11_agentOf l w p1 σ) cs_X5_34 (by omega) rfl rfl (Nat.le_of_ble_eq_true rfl) d_X5_putTree_58 rfl (fun x9 => ?_)
          refine gg_st (go_iload_n 3 d_X5_putTree_61 rfl rfl rfl) ?_
          refine gv_V (k_X5_putAgent l w F (f_X5_putTree F D) _ ih x9 p2 σ) cv_X5_37 sC_62 (by omega) rfl rfl (Nat.le_of_ble_eq_true rfl) d_X5_putTree_62 rfl (fun s10 => ?_)
          exact gg_vret rfl d_X5_putTree_65 rfl
      · refine gg_st (go_aload_n 0 d_X5_putTree_31 rfl rfl rfl) ?_
        refine gg_st (go_bipush d_X5_putTree_32 cb_64 rfl) ?_
        refine gv_V (k_X5_put l w (64 : Int32) σ) cv_X5_23 sC_62 (by omega) rfl rfl (Nat.le_of_ble_eq_true rfl) d_X5_putTree_34 rfl (fun s11 => ?_)
        refine gg_st (go_goto (pc' := 65) d_X5_putTree_37 (by decide)) ?_
        exact gg_vret rfl d_X5_putTree_65 rfl
def f_X11_print (F : Nat) (p1 : Int32) (σ : St) : Option (Int32 × St) :=
  Option.bind (f_X4_hasEnd p1 σ) fun x1 =>
  if x1 = 0 then (
    some ((-1001 : Int32), σ))
  else (
    Option.bind (some (seti σ (62) 1 (0 : Int32))) fun s4 =>
    Option.bind (some (f_X11_endCode p1)) fun x5 =>
    Option.bind (f_X4_wireOf (77) x5 s4) fun x6 =>
    Option.bind (f_X5_putTree F 45 x6 (0 : Int32) s4) fun s7 =>
    some (s7.1 (62) 1, s7))
set_option maxRecDepth 20000 in
theorem k_X11_print (l : Launch) (w : Wo) (F : Nat) (p1 : Int32) (σ : St) : K l w shC m_X11_print 185 [.ref (0), .int p1] σ (f_X11_print F p1 σ) (rIS) := by
  refine k_of (L := [some (.ref (0)), some (.int p1)]) (plainFor_of_name (by decide +kernel)) 0 rfl (Nat.le_of_ble_eq_true rfl) ?_
  unfold f_X11_print
  refine gg_st (go_aload_n 0 d_X11_print_0 rfl rfl rfl) ?_
  refine gg_st (go_getR (j := 8) cf11 sC_0 rfl (by decide) fl_X11_61 d_X11_print_1 rfl) ?_
  refine gg_st (go_getR (j := 2) cf0 sC_64 rfl (by decide) fl_X11_92 d_X11_print_4 rfl) ?_
  refine gg_st (go_iload_n 1 d_X11_print_7 rfl rfl rfl) ?_
  refine gv_I (k_X4_hasEnd l w p1 σ) cv_X11_184 sC_77 (Nat.le_of_ble_eq_true rfl) rfl rfl (Nat.le_of_ble_eq_true rfl) d_X11_print_8 rfl (fun x1 => ?_)
  refine gg_br (br_if_ne (tgt := 18) (pc' := 14) d_X11_print_11 (by decide) rfl) (fun h3 => ?_) (fun h3 => ?_)
  · refine gg_st (go_sipush d_X11_print_14 cs_m1001 rfl) ?_
    exact gg_iret rfl d_X11_print_17 rfl
  · refine gg_st (go_aload_n 0 d_X11_print_18 rfl rfl rfl) ?_
    refine gg_st (go_getR (j := 7) cf11 sC_0 rfl (by decide) fl_X11_54 d_X11_print_19 rfl) ?_
    refine gg_st (go_iconst d_X11_print_22 ci_0 rfl) ?_
    refine gg_st (go_putI (j := 1) cf5 sC_62 rfl (by decide) rfl rfl fl_X11_149 d_X11_print_23 rfl) ?_
    refine gg_som (fun s4 => ?_)
    refine gg_st (go_aload_n 0 d_X11_print_26 rfl rfl rfl) ?_
    refine gg_st (go_getR (j := 7) cf11 sC_0 rfl (by decide) fl_X11_54 d_X11_print_27 rfl) ?_
    refine gg_st (go_aload_n 0 d_X11_print_30 rfl rfl rfl) ?_
    refine gg_st (go_getR (j := 8) cf11 sC_0 rfl (by decide) fl_X11_61 d_X11_print_31 rfl) ?_
    refine gg_st (go_aload_n 0 d_X11_print_34 rfl rfl rfl) ?_
    refine gg_st (go_getR (j := 8) cf11 sC_0 rfl (by decide) fl_X11_61 d_X11_print_35 rfl) ?_
    refine gg_st (go_getR (j := 2) cf0 sC_64 rfl (by decide) fl_X11_92 d_X11_print_38 rfl) ?_
    refine gg_st (go_iload_n 1 d_X11_print_41 rfl rfl rfl) ?_
    refine gs_I (k_X11_endCode l w p1 s4) cs_X11_187 (Nat.le_of_ble_eq_true rfl) rfl rfl (Nat.le_of_ble_eq_true rfl) d_X11_print_42 rfl (fun x5 => ?_)
    refine gv_I (k_X4_wireOf l w (show 77 ∈ st39_43_47_51_77 by decide) x5 s4) cv_X11_181 sC_77 (Nat.le_of_ble_eq_true rfl) rfl rfl (Nat.le_of_ble_eq_true rfl) d_X11_print_45 rfl (fun x6 => ?_)
    refine gg_st (go_iconst d_X11_print_48 ci_0 rfl) ?_
    refine gv_V (k_X5_putTree l w F 45 x6 (0 : Int32) s4) cv_X11_228 sC_62 (Nat.le_of_ble_eq_true rfl) rfl rfl (Nat.le_of_ble_eq_true rfl) d_X11_print_49 rfl (fun s7 => ?_)
    refine gg_st (go_aload_n 0 d_X11_print_52 rfl rfl rfl) ?_
    refine gg_st (go_getR (j := 7) cf11 sC_0 rfl (by decide) fl_X11_54 d_X11_print_53 rfl) ?_
    refine gg_st (go_getI (j := 1) cf5 sC_62 rfl (by decide) fl_X11_149 d_X11_print_56 rfl) ?_
    exact gg_iret rfl d_X11_print_59 rfl
def f_X11_reached (F : Nat) (σ : St) : Option (Int32 × St) :=
  Option.bind (f_X10_reachAll F (56) (77) σ) fun s1 =>
  some (s1.1 (56) 2, s1)
set_option maxRecDepth 20000 in
theorem k_X11_reached (l : Launch) (w : Wo) (F : Nat) (σ : St) : K l w shC m_X11_reached 5 [.ref (0)] σ (f_X11_reached F σ) (rIS) := by
  refine k_of (L := [some (.ref (0))]) (plainFor_of_name (by decide +kernel)) 0 rfl (Nat.le_of_ble_eq_true rfl) ?_
  unfold f_X11_reached
  refine gg_st (go_aload_n 0 d_X11_reached_0 rfl rfl rfl) ?_
  refine gg_st (go_getR (j := 5) cf11 sC_0 rfl (by decide) fl_X11_44 d_X11_reached_1 rfl) ?_
  refine gg_st (go_aload_n 0 d_X11_reached_4 rfl rfl rfl) ?_
  refine gg_st (go_getR (j := 8) cf11 sC_0 rfl (by decide) fl_X11_61 d_X11_reached_5 rfl) ?_
  refine gg_st (go_getR (j := 2) cf0 sC_64 rfl (by decide) fl_X11_92 d_X11_reached_8 rfl) ?_
  refine gg_st (go_aload_n 0 d_X11_reached_11 rfl rfl rfl) ?_
  refine gg_st (go_getR (j := 8) cf11 sC_0 rfl (by decide) fl_X11_61 d_X11_reached_12 rfl) ?_
  refine gg_st (go_getR (j := 0) cf0 sC_64 rfl (by decide) fl_X11_108 d_X11_reached_15 rfl) ?_
  refine gv_V (k_X10_reachAll l w F (show 56 ∈ st56_59 by decide) (show 77 ∈ st39_43_47_51_77 by decide) σ) cv_X11_219 sC_56 (Nat.le_of_ble_eq_true rfl) rfl rfl (Nat.le_of_ble_eq_true rfl) d_X11_reached_18 rfl (fun s1 => ?_)
  refine gg_st (go_aload_n 0 d_X11_reached_21 rfl rfl rfl) ?_
  refine gg_st (go_getR (j := 5) cf11 sC_0 rfl (by decide) fl_X11_44 d_X11_reached_22 rfl) ?_
  refine gg_st (go_getI (j := 2) cf10 sC_56 rfl (by decide) fl_X11_227 d_X11_reached_25 rfl) ?_
  exact gg_iret rfl d_X11_reached_28 rfl
def f_X2_clear (p1 : Int32) (σ : St) : Option (St) :=
  Option.bind (some (seti σ (36) 1 (0 : Int32))) fun s1 =>
  Option.bind (some (seti s1 (36) 2 p1)) fun s2 =>
  Option.bind (some (seti s2 (36) 3 (0 : Int32))) fun s3 =>
  some s3
set_option maxRecDepth 20000 in
theorem k_X2_clear (l : Launch) (w : Wo) (p1 : Int32) (σ : St) : K l w shC m_X2_clear 1 [.ref (36), .int p1] σ (f_X2_clear p1 σ) (rV) := by
  refine k_of (L := [some (.ref (36)), some (.int p1)]) (plainFor_of_name (by decide +kernel)) 0 rfl (Nat.le_of_ble_eq_true rfl) ?_
  unfold f_X2_clear
  refine gg_st (go_aload_n 0 d_X2_clear_0 rfl rfl rfl) ?_
  refine gg_st (go_iconst d_X2_clear_1 ci_0 rfl) ?_
  refine gg_st (go_putI (j := 1) cf2 sC_36 rfl (by decide) rfl rfl fl_X2_15 d_X2_clear_2 rfl) ?_
  refine gg_som (fun s1 => ?_)
  refine gg_st (go_aload_n 0 d_X2_clear_5 rfl rfl rfl) ?_
  refine gg_st (go_iload_n 1 d_X2_clear_6 rfl rfl rfl) ?_
  refine gg_st (go_putI (j := 2) cf2 sC_36 rfl (by decide) rfl rfl fl_X2_19 d_X2_clear_7 rfl) ?_
  refine gg_som (fun s2 => ?_)
  refine gg_st (go_aload_n 0 d_X2_clear_10 rfl rfl rfl) ?_
  refine gg_st (go_iconst d_X2_clear_11 ci_0 rfl) ?_
  refine gg_st (go_putI (j := 3) cf2 sC_36 rfl (by decide) rfl rfl fl_X2_22 d_X2_clear_12 rfl) ?_
  refine gg_som (fun s3 => ?_)
  exact gg_vret rfl d_X2_clear_15 rfl
def f_X6_isWord (p1 : Int64) (σ : St) : Int32 :=
  if ((σ.1 (9) 7) = (2 : Int32)) ∧ ((lg_cmp (σ.2 (9) 9) p1) = 0) then (
    (1 : Int32))
  else (
    (0 : Int32))
set_option maxRecDepth 20000 in
theorem k_X6_isWord (l : Launch) (w : Wo) (p1 : Int64) (σ : St) : K l w shC m_X6_isWord 1 [.ref (1), .long p1] σ (some (f_X6_isWord p1 σ)) (rI σ) := by
  refine k_of (L := [some (.ref (1)), some (.long p1), none]) (plainFor_of_name (by decide +kernel)) 0 rfl (Nat.le_of_ble_eq_true rfl) ?_
  unfold f_X6_isWord
  refine gg_st (go_aload_n 0 d_X6_isWord_0 rfl rfl rfl) ?_
  refine gg_st (go_getR (j := 5) cf6 sC_1 rfl (by decide) fl_X6_25 d_X6_isWord_1 rfl) ?_
  refine gg_st (go_getI (j := 7) cf9 sC_9 rfl (by decide) fl_X6_53 d_X6_isWord_4 rfl) ?_
  refine gg_st (go_iconst d_X6_isWord_7 ci_2 rfl) ?_
  refine gg_twov (c := ((σ.1 (9) 7) = (2 : Int32)) ∧ ((lg_cmp (σ.2 (9) 9) p1) = 0)) (pA := 23) (pB := 27) (LL := [some (.ref (1)), some (.long p1), none]) (ss := []) ?_ ?_ (fun hA1 hB2 => ?_)
  · refine gg_st (go_iconst d_X6_isWord_23 ci_1 rfl) ?_
    refine gg_st (go_goto (pc' := 28) d_X6_isWord_24 (by decide)) ?_
    exact gg_zret (Or.inr rfl) rfl d_X6_isWord_28 rfl
  · refine gg_st (go_iconst d_X6_isWord_27 ci_0 rfl) ?_
    exact gg_zret (Or.inl rfl) rfl d_X6_isWord_28 rfl
  refine gg_brs (br_icmp_ne (tgt := 27) (pc' := 11) d_X6_isWord_8 (by decide) rfl) (fun h3 => ?_) (fun h3 => ?_)
  · refine gg_st (go_aload_n 0 d_X6_isWord_11 rfl rfl rfl) ?_
    refine gg_st (go_getR (j := 5) cf6 sC_1 rfl (by decide) fl_X6_25 d_X6_isWord_12 rfl) ?_
    refine gg_st (go_getL (j := 9) cf9 sC_9 rfl (by decide) fl_X6_81 d_X6_isWord_15 rfl) ?_
    refine gg_st (go_lload_n 1 d_X6_isWord_18 rfl rfl rfl) ?_
    refine gg_st (go_lcmp d_X6_isWord_19 rfl) ?_
    refine gg_brs (br_if_ne (tgt := 27) (pc' := 23) d_X6_isWord_20 (by decide) rfl) (fun h4 => ?_) (fun h4 => ?_)
    · exact gg_eq (congrArg some (if_pos ⟨h3, h4⟩)) hA1
    · exact gg_eq (congrArg some (if_neg (fun z => h4 z.2))) hB2
  · exact gg_eq (congrArg some (if_neg (fun z => h3 z.1))) hB2
def f_X3_isFull (σ : St) : Int32 :=
  if (16 : Int32) ≤ (σ.1 (15) 3) then (
    (1 : Int32))
  else (
    (0 : Int32))
set_option maxRecDepth 20000 in
theorem k_X3_isFull (l : Launch) (w : Wo) (σ : St) : K l w shC m_X3_isFull 1 [.ref (15)] σ (some (f_X3_isFull σ)) (rI σ) := by
  refine k_of (L := [some (.ref (15))]) (plainFor_of_name (by decide +kernel)) 0 rfl (Nat.le_of_ble_eq_true rfl) ?_
  unfold f_X3_isFull
  refine gg_st (go_aload_n 0 d_X3_isFull_0 rfl rfl rfl) ?_
  refine gg_st (go_getI (j := 3) cf3 sC_15 rfl (by decide) fl_X3_22 d_X3_isFull_1 rfl) ?_
  refine gg_st (go_bipush d_X3_isFull_4 cb_16 rfl) ?_
  refine gg_brv (f := fun z => some z) (br_icmp_lt (tgt := 13) (pc' := 9) d_X3_isFull_6 (by decide) rfl) (fun h1 => ?_) (fun h1 => ?_)
  · refine gg_st (go_iconst d_X3_isFull_9 ci_1 rfl) ?_
    refine gg_st (go_goto (pc' := 14) d_X3_isFull_10 (by decide)) ?_
    exact gg_zret (Or.inr rfl) rfl d_X3_isFull_14 rfl
  · refine gg_st (go_iconst d_X3_isFull_13 ci_0 rfl) ?_
    exact gg_zret (Or.inl rfl) rfl d_X3_isFull_14 rfl
def f_X3_add (p1 : Int64) (σ : St) : Option (St) :=
  Option.bind (some (f_X3_isFull σ)) fun x1 =>
  if x1 = 0 then (
    if inb (σ.1 (15) 3) 16 then (
      Option.bind (some (setl σ (16) (ix (σ.1 (15) 3)) p1)) fun s6 =>
      if inb (s6.1 (15) 3) 16 then (
        Option.bind (some (seti s6 (17) (ix (s6.1 (15) 3)) (0 : Int32))) fun s8 =>
        Option.bind (some (seti s8 (15) 3 ((s8.1 (15) 3) + (1 : Int32)))) fun s9 =>
        some s9)
      else none)
    else none)
  else (
    some σ)
set_option maxRecDepth 20000 in
theorem k_X3_add (l : Launch) (w : Wo) (p1 : Int64) (σ : St) : K l w shC m_X3_add 2 [.ref (15), .long p1] σ (f_X3_add p1 σ) (rV) := by
  refine k_of (L := [some (.ref (15)), some (.long p1), none]) (plainFor_of_name (by decide +kernel)) 0 rfl (Nat.le_of_ble_eq_true rfl) ?_
  unfold f_X3_add
  refine gg_st (go_aload_n 0 d_X3_add_0 rfl rfl rfl) ?_
  refine gv_I (k_X3_isFull l w  σ) cv_X3_26 sC_15 (Nat.le_of_ble_eq_true rfl) rfl rfl (Nat.le_of_ble_eq_true rfl) d_X3_add_1 rfl (fun x1 => ?_)
  refine gg_br (br_if_ne (tgt := 37) (pc' := 7) d_X3_add_4 (by decide) rfl) (fun h4 => ?_) (fun h4 => ?_)
  · refine gg_st (go_aload_n 0 d_X3_add_7 rfl rfl rfl) ?_
    refine gg_st (go_getR (j := 0) cf3 sC_15 rfl (by decide) fl_X3_9 d_X3_add_8 rfl) ?_
    refine gg_st (go_aload_n 0 d_X3_add_11 rfl rfl rfl) ?_
    refine gg_st (go_getI (j := 3) cf3 sC_15 rfl (by decide) fl_X3_22 d_X3_add_12 rfl) ?_
    refine gg_st (go_lload_n 1 d_X3_add_15 rfl rfl rfl) ?_
    refine gg_gd (fun h5 => ?_)
    refine gg_st (go_last sC_16 h5 d_X3_add_16 rfl) ?_
    refine gg_som (fun s6 => ?_)
    refine gg_st (go_aload_n 0 d_X3_add_17 rfl rfl rfl) ?_
    refine gg_st (go_getR (j := 1) cf3 sC_15 rfl (by decide) fl_X3_15 d_X3_add_18 rfl) ?_
    refine gg_st (go_aload_n 0 d_X3_add_21 rfl rfl rfl) ?_
    refine gg_st (go_getI (j := 3) cf3 sC_15 rfl (by decide) fl_X3_22 d_X3_add_22 rfl) ?_
    refine gg_st (go_iconst d_X3_add_25 ci_0 rfl) ?_
    refine gg_gd (fun h7 => ?_)
    refine gg_st (go_iast sC_17 h7 d_X3_add_26 rfl) ?_
    refine gg_som (fun s8 => ?_)
    refine gg_st (go_aload_n 0 d_X3_add_27 rfl rfl rfl) ?_
    refine gg_st (go_dup d_X3_add_28 rfl rfl) ?_
    refine gg_st (go_getI (j := 3) cf3 sC_15 rfl (by decide) fl_X3_22 d_X3_add_29 rfl) ?_
    refine gg_st (go_iconst d_X3_add_32 ci_1 rfl) ?_
    refine gg_st (go_iadd d_X3_add_33 rfl) ?_
    refine gg_st (go_putI (j := 3) cf3 sC_15 rfl (by decide) rfl rfl fl_X3_22 d_X3_add_34 rfl) ?_
    refine gg_som (fun s9 => ?_)
    exact gg_vret rfl d_X3_add_37 rfl
  · exact gg_vret rfl d_X3_add_37 rfl
def f_X3_find_L2 (F : Nat) (c1 : Int64) (σ : St) : Nat → Int32 → Option (Int32)
  | 0, _ => none
  | n + 1, v1 =>
    if (v1 < (σ.1 (15) 3)) ∧ (v1 < (16 : Int32)) then (
      if inb v1 16 then (
        if (lg_cmp (σ.2 (16) (ix v1)) c1) = 0 then (
          some v1)
        else (
          f_X3_find_L2 F c1 σ n (v1 + (1 : Int32))))
      else none)
    else (
      some (-1 : Int32))
def f_X3_find (F : Nat) (p1 : Int64) (σ : St) : Option (Int32) :=
  f_X3_find_L2 F p1 σ F (0 : Int32)
set_option maxRecDepth 20000 in
theorem g_f_X3_find_L2 (l : Launch) (w : Wo) (F : Nat) (c1 : Int64) (σ : St) : ∀ (n : Nat) (v1 : Int32), GG l w shC m_X3_find 1 2 [some (.ref (15)), some (.long c1), none, some (.int v1)] [] σ (f_X3_find_L2 F c1 σ n v1) (fun q => .inr ((rI σ) q)) := by
  intro n
  induction n with
  | zero =>
    intro v1
    exact gg_none
  | succ n ih =>
    intro v1
    rw [f_X3_find_L2]
    refine gg_st (go_iload_n 3 d_X3_find_2 rfl rfl rfl) ?_
    refine gg_st (go_aload_n 0 d_X3_find_3 rfl rfl rfl) ?_
    refine gg_st (go_getI (j := 3) cf3 sC_15 rfl (by decide) fl_X3_22 d_X3_find_4 rfl) ?_
    refine gg_two (c := (v1 < (σ.1 (15) 3)) ∧ (v1 < (16 : Int32))) (pA := 16) (pB := 35) (LL := [some (.ref (15)), some (.long c1), none, some (.int v1)]) (ss := []) ?_ ?_ (fun hA5 hB6 => ?_)
    · refine gg_st (go_aload_n 0 d_X3_find_16 rfl rfl rfl) ?_
      refine gg_st (go_getR (j := 0) cf3 sC_15 rfl (by decide) fl_X3_9 d_X3_find_17 rfl) ?_
      refine gg_st (go_iload_n 3 d_X3_find_20 rfl rfl rfl) ?_
      refine gg_gd (fun h3 => ?_)
      refine gg_st (go_lald sC_16 h3 d_X3_find_21 rfl) ?_
      refine gg_st (go_lload_n 1 d_X3_find_22 rfl rfl rfl) ?_
      refine gg_st (go_lcmp d_X3_find_23 rfl) ?_
      refine gg_br (br_if_ne (tgt := 29) (pc' := 27) d_X3_find_24 (by decide) rfl) (fun h4 => ?_) (fun h4 => ?_)
      · refine gg_st (go_iload_n 3 d_X3_find_27 rfl rfl rfl) ?_
        exact gg_iret rfl d_X3_find_28 rfl
      · refine gg_st (go_iinc 3 d_X3_find_29 rfl (v := v1 + (1 : Int32)) (by rw [ci_1]) (by decide) (L' := [some (.ref (15)), some (.long c1), none, some (.int (v1 + (1 : Int32)))]) rfl rfl) ?_
        refine gg_st (go_goto (pc' := 2) d_X3_find_32 (by decide)) ?_
        exact ih (v1 + (1 : Int32))
    · refine gg_st (go_iconst d_X3_find_35 ci_m1 rfl) ?_
      exact gg_iret rfl d_X3_find_36 rfl
    refine gg_brs (br_icmp_ge (tgt := 35) (pc' := 10) d_X3_find_7 (by decide) rfl) (fun h7 => ?_) (fun h7 => ?_)
    · refine gg_st (go_iload_n 3 d_X3_find_10 rfl rfl rfl) ?_
      refine gg_st (go_bipush d_X3_find_11 cb_16 rfl) ?_
      refine gg_brs (br_icmp_ge (tgt := 35) (pc' := 16) d_X3_find_13 (by decide) rfl) (fun h8 => ?_) (fun h8 => ?_)
      · exact gg_eq (if_pos ⟨h7, h8⟩) hA5
      · exact gg_eq (if_neg (fun z => h8 z.2)) hB6
    · exact gg_eq (if_neg (fun z => h7 z.1)) hB6
set_option maxRecDepth 20000 in
theorem k_X3_find (l : Launch) (w : Wo) (F : Nat) (p1 : Int64) (σ : St) : K l w shC m_X3_find 1 [.ref (15), .long p1] σ (f_X3_find F p1 σ) (rI σ) := by
  refine k_of (L := [some (.ref (15)), some (.long p1), none, none]) (plainFor_of_name (by decide +kernel)) 1 rfl (Nat.le_of_ble_eq_true rfl) ?_
  unfold f_X3_find
  refine gg_st (go_iconst d_X3_find_0 ci_0 rfl) ?_
  refine gg_st (go_istore_n 3 d_X3_find_1 rfl (by decide) (L' := [some (.ref (15)), some (.long p1), none, some (.int (0 : Int32))]) rfl rfl) ?_
  refine g_f_X3_find_L2 l w F p1 σ  F (0 : Int32)
