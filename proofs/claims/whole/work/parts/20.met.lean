def f_J0_coder_7d493 : Int32 :=
  if (1 : Int32) = 0 then (
    (1 : Int32))
  else (
    (0 : Int32))
set_option maxRecDepth 20000 in
theorem k_J0_coder_7d493 (l : Launch) (w : Wo) (hw : w.2.2.2 = true) (σ : St) : K l w shC m_J0_coder_7d493 1 [.ref (9999)] σ (some (f_J0_coder_7d493)) (rI σ) := by
  refine k_of (L := [some (.ref (9999))]) (plainFor_of_name (by decide +kernel)) 0 rfl (Nat.le_of_ble_eq_true rfl) ?_
  unfold f_J0_coder_7d493
  refine gg_st (go_cst hw fl_J0_38 d_J0_coder_7d493_0 rfl) ?_
  refine gg_brv (f := fun z => some z) (br_if_eq (tgt := 13) (pc' := 6) d_J0_coder_7d493_3 (by decide) rfl) (fun h1 => ?_) (fun h1 => ?_)
  · refine gg_st (go_iconst d_J0_coder_7d493_13 ci_1 rfl) ?_
    exact gg_bret rfl rfl d_J0_coder_7d493_14 rfl
  · refine gg_st (go_aload_n 0 d_J0_coder_7d493_6 rfl rfl rfl) ?_
    refine gg_st (go_tcod hw fl_J0_15 d_J0_coder_7d493_7 rfl) ?_
    refine gg_st (go_goto (pc' := 14) d_J0_coder_7d493_10 (by decide)) ?_
    exact gg_bret rfl rfl d_J0_coder_7d493_14 rfl
def f_J0_isLatin1_aae02 : Int32 :=
  if ((1 : Int32) = 0) ∨ (¬ ((0 : Int32) = 0)) then (
    (0 : Int32))
  else (
    (1 : Int32))
set_option maxRecDepth 20000 in
theorem k_J0_isLatin1_aae02 (l : Launch) (w : Wo) (hw : w.2.2.2 = true) (σ : St) : K l w shC m_J0_isLatin1_aae02 1 [.ref (9999)] σ (some (f_J0_isLatin1_aae02)) (rI σ) := by
  refine k_of (L := [some (.ref (9999))]) (plainFor_of_name (by decide +kernel)) 0 rfl (Nat.le_of_ble_eq_true rfl) ?_
  unfold f_J0_isLatin1_aae02
  refine gg_st (go_cst hw fl_J0_38 d_J0_isLatin1_aae02_0 rfl) ?_
  refine gg_twov (c := ((1 : Int32) = 0) ∨ (¬ ((0 : Int32) = 0))) (pA := 17) (pB := 13) (LL := [some (.ref (9999))]) (ss := []) ?_ ?_ (fun hA1 hB2 => ?_)
  · refine gg_st (go_iconst d_J0_isLatin1_aae02_17 ci_0 rfl) ?_
    exact gg_zret (Or.inl rfl) rfl d_J0_isLatin1_aae02_18 rfl
  · refine gg_st (go_iconst d_J0_isLatin1_aae02_13 ci_1 rfl) ?_
    refine gg_st (go_goto (pc' := 18) d_J0_isLatin1_aae02_14 (by decide)) ?_
    exact gg_zret (Or.inr rfl) rfl d_J0_isLatin1_aae02_18 rfl
  refine gg_brs (br_if_eq (tgt := 17) (pc' := 6) d_J0_isLatin1_aae02_3 (by decide) rfl) (fun h3 => ?_) (fun h3 => ?_)
  · exact gg_eq (congrArg some (if_pos (Or.inl h3))) hA1
  · refine gg_st (go_aload_n 0 d_J0_isLatin1_aae02_6 rfl rfl rfl) ?_
    refine gg_st (go_tcod hw fl_J0_15 d_J0_isLatin1_aae02_7 rfl) ?_
    refine gg_brs (br_if_ne (tgt := 17) (pc' := 13) d_J0_isLatin1_aae02_10 (by decide) rfl) (fun h4 => ?_) (fun h4 => ?_)
    · exact gg_eq (congrArg some (if_neg (fun z => z.elim h3 (fun z => z h4)))) hB2
    · exact gg_eq (congrArg some (if_pos (Or.inr h4))) hA1
def f_J0_length_8abf5 : Option (Int32) :=
  Option.bind (some (f_J0_coder_7d493)) fun x1 =>
  some ((8 : Int32) >>> (x1 &&& 31))
set_option maxRecDepth 20000 in
theorem k_J0_length_8abf5 (l : Launch) (w : Wo) (hw : w.2.2.2 = true) (σ : St) : K l w shC m_J0_length_8abf5 2 [.ref (9999)] σ (f_J0_length_8abf5) (rI σ) := by
  refine k_of (L := [some (.ref (9999))]) (plainFor_of_name (by decide +kernel)) 0 rfl (Nat.le_of_ble_eq_true rfl) ?_
  unfold f_J0_length_8abf5
  refine gg_st (go_aload_n 0 d_J0_length_8abf5_0 rfl rfl rfl) ?_
  refine gg_st (go_tval hw fl_J0_9 d_J0_length_8abf5_1 rfl) ?_
  refine gg_st (go_tlen hw d_J0_length_8abf5_4 rfl) ?_
  refine gg_st (go_aload_n 0 d_J0_length_8abf5_5 rfl rfl rfl) ?_
  refine gt_I hw (k_J0_coder_7d493 l w hw  σ) ct_J0_335 (Nat.le_of_ble_eq_true rfl) rfl rfl (Nat.le_of_ble_eq_true rfl) d_J0_length_8abf5_6 rfl (fun x1 => ?_)
  refine gg_st (go_ishr d_J0_length_8abf5_9 rfl) ?_
  exact gg_iret rfl d_J0_length_8abf5_10 rfl
def f_J1_canEncode_9a6ad (p1 : Int32) : Int32 :=
  if (0 ≤ p1) ∧ (p1 ≤ (255 : Int32)) then (
    (1 : Int32))
  else (
    (0 : Int32))
set_option maxRecDepth 20000 in
theorem k_J1_canEncode_9a6ad (l : Launch) (w : Wo) (p1 : Int32) (σ : St) : K l w shC m_J1_canEncode_9a6ad 1 [.int p1] σ (some (f_J1_canEncode_9a6ad p1)) (rI σ) := by
  refine k_of (L := [some (.int p1)]) (plainFor_of_name (by decide +kernel)) 0 rfl (Nat.le_of_ble_eq_true rfl) ?_
  unfold f_J1_canEncode_9a6ad
  refine gg_st (go_iload_n 0 d_J1_canEncode_9a6ad_0 rfl rfl rfl) ?_
  refine gg_twov (c := (0 ≤ p1) ∧ (p1 ≤ (255 : Int32))) (pA := 11) (pB := 15) (LL := [some (.int p1)]) (ss := []) ?_ ?_ (fun hA1 hB2 => ?_)
  · refine gg_st (go_iconst d_J1_canEncode_9a6ad_11 ci_1 rfl) ?_
    refine gg_st (go_goto (pc' := 16) d_J1_canEncode_9a6ad_12 (by decide)) ?_
    exact gg_zret (Or.inr rfl) rfl d_J1_canEncode_9a6ad_16 rfl
  · refine gg_st (go_iconst d_J1_canEncode_9a6ad_15 ci_0 rfl) ?_
    exact gg_zret (Or.inl rfl) rfl d_J1_canEncode_9a6ad_16 rfl
  refine gg_brs (br_if_lt (tgt := 15) (pc' := 4) d_J1_canEncode_9a6ad_1 (by decide) rfl) (fun h3 => ?_) (fun h3 => ?_)
  · refine gg_st (go_iload_n 0 d_J1_canEncode_9a6ad_4 rfl rfl rfl) ?_
    refine gg_st (go_sipush d_J1_canEncode_9a6ad_5 cs_255 rfl) ?_
    refine gg_brs (br_icmp_gt (tgt := 15) (pc' := 11) d_J1_canEncode_9a6ad_8 (by decide) rfl) (fun h4 => ?_) (fun h4 => ?_)
    · exact gg_eq (congrArg some (if_pos ⟨h3, h4⟩)) hA1
    · exact gg_eq (congrArg some (if_neg (fun z => h4 z.2))) hB2
  · exact gg_eq (congrArg some (if_neg (fun z => h3 z.1))) hB2
def f_J1_indexOfChar_4cfef_L7 (F : Nat) (c3 : Int32) (c4 : Int32) (σ : St) : Nat → Int32 → Option (Int32)
  | 0, _ => none
  | n + 1, v2 =>
    if v2 < c3 then (
      if inb v2 8 then (
        if (sgn (ix v2)) = c4 then (
          some v2)
        else (
          f_J1_indexOfChar_4cfef_L7 F c3 c4 σ n (v2 + (1 : Int32))))
      else none)
    else (
      some (-1 : Int32))
def f_J1_indexOfChar_4cfef (F : Nat) (p1 : Int32) (p2 : Int32) (p3 : Int32) (σ : St) : Option (Int32) :=
  Option.bind (some (p1.toInt8.toInt32)) fun x1 =>
  f_J1_indexOfChar_4cfef_L7 F p3 x1 σ F p2
set_option maxRecDepth 20000 in
theorem g_f_J1_indexOfChar_4cfef_L7 (l : Launch) (w : Wo) (hw : w.2.2.2 = true) (F : Nat) (c3 : Int32) (c4 : Int32) (σ : St) : ∀ (n : Nat) (v2 : Int32), GG l w shC m_J1_indexOfChar_4cfef 1 7 [some (.ref (9998)), none, none, some (.int c3), some (.int c4), some (.int v2)] [] σ (f_J1_indexOfChar_4cfef_L7 F c3 c4 σ n v2) (fun q => .inr ((rI σ) q)) := by
  intro n
  induction n with
  | zero =>
    intro v2
    exact gg_none
  | succ n ih =>
    intro v2
    rw [f_J1_indexOfChar_4cfef_L7]
    refine gg_st (go_iload 5 d_J1_indexOfChar_4cfef_7 rfl rfl) ?_
    refine gg_st (go_iload_n 3 d_J1_indexOfChar_4cfef_9 rfl rfl rfl) ?_
    refine gg_br (br_icmp_ge (tgt := 31) (pc' := 13) d_J1_indexOfChar_4cfef_10 (by decide) rfl) (fun h4 => ?_) (fun h4 => ?_)
    · refine gg_st (go_aload_n 0 d_J1_indexOfChar_4cfef_13 rfl rfl rfl) ?_
      refine gg_st (go_iload 5 d_J1_indexOfChar_4cfef_14 rfl rfl) ?_
      refine gg_gd (fun h5 => ?_)
      refine gg_st (go_tb hw h5 d_J1_indexOfChar_4cfef_16 rfl) ?_
      refine gg_st (go_iload 4 d_J1_indexOfChar_4cfef_17 rfl rfl) ?_
      refine gg_br (br_icmp_ne (tgt := 25) (pc' := 22) d_J1_indexOfChar_4cfef_19 (by decide) rfl) (fun h6 => ?_) (fun h6 => ?_)
      · refine gg_st (go_iload 5 d_J1_indexOfChar_4cfef_22 rfl rfl) ?_
        exact gg_iret rfl d_J1_indexOfChar_4cfef_24 rfl
      · refine gg_st (go_iinc 5 d_J1_indexOfChar_4cfef_25 rfl (v := v2 + (1 : Int32)) (by rw [ci_1]) (by decide) (L' := [some (.ref (9998)), none, none, some (.int c3), some (.int c4), some (.int (v2 + (1 : Int32)))]) rfl rfl) ?_
        refine gg_st (go_goto (pc' := 7) d_J1_indexOfChar_4cfef_28 (by decide)) ?_
        exact ih (v2 + (1 : Int32))
    · refine gg_st (go_iconst d_J1_indexOfChar_4cfef_31 ci_m1 rfl) ?_
      exact gg_iret rfl d_J1_indexOfChar_4cfef_32 rfl
set_option maxRecDepth 20000 in
theorem k_J1_indexOfChar_4cfef (l : Launch) (w : Wo) (hw : w.2.2.2 = true) (F : Nat) (p1 : Int32) (p2 : Int32) (p3 : Int32) (σ : St) : K l w shC m_J1_indexOfChar_4cfef 1 [.ref (9998), .int p1, .int p2, .int p3] σ (f_J1_indexOfChar_4cfef F p1 p2 p3 σ) (rI σ) := by
  refine k_of (L := [some (.ref (9998)), some (.int p1), some (.int p2), some (.int p3), none, none]) (plainFor_of_name (by decide +kernel)) 2 rfl (Nat.le_of_ble_eq_true rfl) ?_
  unfold f_J1_indexOfChar_4cfef
  refine gg_st (go_iload_n 1 d_J1_indexOfChar_4cfef_0 rfl rfl rfl) ?_
  refine gg_st (go_i2b d_J1_indexOfChar_4cfef_1 rfl) ?_
  refine gg_nm (fun _ => [some (.ref (9998)), some (.int p1), some (.int p2), some (.int p3), none, none]) (fun (x1 : Int32) => [.int x1]) (fun x1 => ?_)
  refine gg_st (go_istore 4 d_J1_indexOfChar_4cfef_2 (by decide) (L' := [some (.ref (9998)), some (.int p1), some (.int p2), some (.int p3), some (.int x1), none]) rfl rfl) ?_
  refine gg_st (go_iload_n 2 d_J1_indexOfChar_4cfef_4 rfl rfl rfl) ?_
  refine gg_st (go_istore 5 d_J1_indexOfChar_4cfef_5 (by decide) (L' := [some (.ref (9998)), some (.int p1), some (.int p2), some (.int p3), some (.int x1), some (.int p2)]) rfl rfl) ?_
  refine gg_st (go_fg [some (.ref (9998)), none, none, some (.int p3), some (.int x1), some (.int p2)] ⟨rfl, ⟨rfl, ⟨rfl, ⟨rfl, trivial⟩⟩⟩⟩) ?_
  refine g_f_J1_indexOfChar_4cfef_L7 l w hw F p3 x1 σ  F p2
def f_J9_max_7cf53 (p1 : Int32) (p2 : Int32) : Int32 :=
  if p2 ≤ p1 then (
    p1)
  else (
    p2)
set_option maxRecDepth 20000 in
theorem k_J9_max_7cf53 (l : Launch) (w : Wo) (p1 : Int32) (p2 : Int32) (σ : St) : K l w shC m_J9_max_7cf53 1 [.int p1, .int p2] σ (some (f_J9_max_7cf53 p1 p2)) (rI σ) := by
  refine k_of (L := [some (.int p1), some (.int p2)]) (by decide +kernel) 0 rfl (Nat.le_of_ble_eq_true rfl) ?_
  unfold f_J9_max_7cf53
  refine gg_st (go_iload_n 0 d_J9_max_7cf53_0 rfl rfl rfl) ?_
  refine gg_st (go_iload_n 1 d_J9_max_7cf53_1 rfl rfl rfl) ?_
  refine gg_brv (f := fun z => some z) (br_icmp_lt (tgt := 9) (pc' := 5) d_J9_max_7cf53_2 (by decide) rfl) (fun h1 => ?_) (fun h1 => ?_)
  · refine gg_st (go_iload_n 0 d_J9_max_7cf53_5 rfl rfl rfl) ?_
    refine gg_st (go_goto (pc' := 10) d_J9_max_7cf53_6 (by decide)) ?_
    exact gg_iret rfl d_J9_max_7cf53_10 rfl
  · refine gg_st (go_iload_n 1 d_J9_max_7cf53_9 rfl rfl rfl) ?_
    exact gg_iret rfl d_J9_max_7cf53_10 rfl
def f_J9_min_7cf53 (p1 : Int32) (p2 : Int32) : Int32 :=
  if p1 ≤ p2 then (
    p1)
  else (
    p2)
set_option maxRecDepth 20000 in
theorem k_J9_min_7cf53 (l : Launch) (w : Wo) (p1 : Int32) (p2 : Int32) (σ : St) : K l w shC m_J9_min_7cf53 1 [.int p1, .int p2] σ (some (f_J9_min_7cf53 p1 p2)) (rI σ) := by
  refine k_of (L := [some (.int p1), some (.int p2)]) (by decide +kernel) 0 rfl (Nat.le_of_ble_eq_true rfl) ?_
  unfold f_J9_min_7cf53
  refine gg_st (go_iload_n 0 d_J9_min_7cf53_0 rfl rfl rfl) ?_
  refine gg_st (go_iload_n 1 d_J9_min_7cf53_1 rfl rfl rfl) ?_
  refine gg_brv (f := fun z => some z) (br_icmp_gt (tgt := 9) (pc' := 5) d_J9_min_7cf53_2 (by decide) rfl) (fun h1 => ?_) (fun h1 => ?_)
  · refine gg_st (go_iload_n 0 d_J9_min_7cf53_5 rfl rfl rfl) ?_
    refine gg_st (go_goto (pc' := 10) d_J9_min_7cf53_6 (by decide)) ?_
    exact gg_iret rfl d_J9_min_7cf53_10 rfl
  · refine gg_st (go_iload_n 1 d_J9_min_7cf53_9 rfl rfl rfl) ?_
    exact gg_iret rfl d_J9_min_7cf53_10 rfl
def f_J1_indexOf_4cfef (F : Nat) (p1 : Int32) (p2 : Int32) (p3 : Int32) (σ : St) : Option (Int32) :=
  Option.bind (some (f_J1_canEncode_9a6ad p1)) fun x1 =>
  if x1 = 0 then (
    some (-1 : Int32))
  else (
    Option.bind (some (f_J9_max_7cf53 p2 (0 : Int32))) fun x3 =>
    Option.bind (some (f_J9_min_7cf53 p3 (8 : Int32))) fun x4 =>
    if x4 ≤ x3 then (
      some (-1 : Int32))
    else (
      Option.bind (f_J1_indexOfChar_4cfef F p1 x3 x4 σ) fun x6 =>
      some x6))
set_option maxRecDepth 20000 in
theorem k_J1_indexOf_4cfef (l : Launch) (w : Wo) (hw : w.2.2.2 = true) (F : Nat) (p1 : Int32) (p2 : Int32) (p3 : Int32) (σ : St) : K l w shC m_J1_indexOf_4cfef 2 [.ref (9998), .int p1, .int p2, .int p3] σ (f_J1_indexOf_4cfef F p1 p2 p3 σ) (rI σ) := by
  refine k_of (L := [some (.ref (9998)), some (.int p1), some (.int p2), some (.int p3)]) (plainFor_of_name (by decide +kernel)) 0 rfl (Nat.le_of_ble_eq_true rfl) ?_
  unfold f_J1_indexOf_4cfef
  refine gg_st (go_iload_n 1 d_J1_indexOf_4cfef_0 rfl rfl rfl) ?_
  refine gs_I (k_J1_canEncode_9a6ad l w p1 σ) cs_J1_88 (Nat.le_of_ble_eq_true rfl) rfl rfl (Nat.le_of_ble_eq_true rfl) d_J1_indexOf_4cfef_1 rfl (fun x1 => ?_)
  refine gg_br (br_if_ne (tgt := 9) (pc' := 7) d_J1_indexOf_4cfef_4 (by decide) rfl) (fun h2 => ?_) (fun h2 => ?_)
  · refine gg_st (go_iconst d_J1_indexOf_4cfef_7 ci_m1 rfl) ?_
    exact gg_iret rfl d_J1_indexOf_4cfef_8 rfl
  · refine gg_st (go_iload_n 2 d_J1_indexOf_4cfef_9 rfl rfl rfl) ?_
    refine gg_st (go_iconst d_J1_indexOf_4cfef_10 ci_0 rfl) ?_
    refine gs_I (k_J9_max_7cf53 l w p2 (0 : Int32) σ) cs_J1_92 (Nat.le_of_ble_eq_true rfl) rfl rfl (Nat.le_of_ble_eq_true rfl) d_J1_indexOf_4cfef_11 rfl (fun x3 => ?_)
    refine gg_st (go_istore_n 2 d_J1_indexOf_4cfef_14 rfl (by decide) (L' := [some (.ref (9998)), some (.int p1), some (.int x3), some (.int p3)]) rfl rfl) ?_
    refine gg_st (go_iload_n 3 d_J1_indexOf_4cfef_15 rfl rfl rfl) ?_
    refine gg_st (go_aload_n 0 d_J1_indexOf_4cfef_16 rfl rfl rfl) ?_
    refine gg_st (go_tlen hw d_J1_indexOf_4cfef_17 rfl) ?_
    refine gs_I (k_J9_min_7cf53 l w p3 (8 : Int32) σ) cs_J1_38 (Nat.le_of_ble_eq_true rfl) rfl rfl (Nat.le_of_ble_eq_true rfl) d_J1_indexOf_4cfef_18 rfl (fun x4 => ?_)
    refine gg_st (go_istore_n 3 d_J1_indexOf_4cfef_21 rfl (by decide) (L' := [some (.ref (9998)), some (.int p1), some (.int x3), some (.int x4)]) rfl rfl) ?_
    refine gg_st (go_iload_n 2 d_J1_indexOf_4cfef_22 rfl rfl rfl) ?_
    refine gg_st (go_iload_n 3 d_J1_indexOf_4cfef_23 rfl rfl rfl) ?_
    refine gg_br (br_icmp_lt (tgt := 29) (pc' := 27) d_J1_indexOf_4cfef_24 (by decide) rfl) (fun h5 => ?_) (fun h5 => ?_)
    · refine gg_st (go_iconst d_J1_indexOf_4cfef_27 ci_m1 rfl) ?_
      exact gg_iret rfl d_J1_indexOf_4cfef_28 rfl
    · refine gg_st (go_aload_n 0 d_J1_indexOf_4cfef_29 rfl rfl rfl) ?_
      refine gg_st (go_iload_n 1 d_J1_indexOf_4cfef_30 rfl rfl rfl) ?_
      refine gg_st (go_iload_n 2 d_J1_indexOf_4cfef_31 rfl rfl rfl) ?_
      refine gg_st (go_iload_n 3 d_J1_indexOf_4cfef_32 rfl rfl rfl) ?_
      refine gs_I (k_J1_indexOfChar_4cfef l w hw F p1 x3 x4 σ) cs_J1_95 (Nat.le_of_ble_eq_true rfl) rfl rfl (Nat.le_of_ble_eq_true rfl) d_J1_indexOf_4cfef_33 rfl (fun x6 => ?_)
      exact gg_iret rfl d_J1_indexOf_4cfef_36 rfl
def f_J0_indexOf_7cf53 (F : Nat) (p1 : Int32) (p2 : Int32) (σ : St) : Option (Int32) :=
  Option.bind (some (f_J0_isLatin1_aae02)) fun x1 =>
  if x1 = 0 then (
    none)
  else (
    Option.bind (f_J0_length_8abf5) fun x4 =>
    Option.bind (f_J1_indexOf_4cfef F p1 p2 x4 σ) fun x5 =>
    some x5)
set_option maxRecDepth 20000 in
theorem k_J0_indexOf_7cf53 (l : Launch) (w : Wo) (hw : w.2.2.2 = true) (F : Nat) (p1 : Int32) (p2 : Int32) (σ : St) : K l w shC m_J0_indexOf_7cf53 3 [.ref (9999), .int p1, .int p2] σ (f_J0_indexOf_7cf53 F p1 p2 σ) (rI σ) := by
  refine k_of (L := [some (.ref (9999)), some (.int p1), some (.int p2)]) (plainFor_of_name (by decide +kernel)) 0 rfl (Nat.le_of_ble_eq_true rfl) ?_
  unfold f_J0_indexOf_7cf53
  refine gg_st (go_aload_n 0 d_J0_indexOf_7cf53_0 rfl rfl rfl) ?_
  refine gt_I hw (k_J0_isLatin1_aae02 l w hw  σ) ct_J0_492 (Nat.le_of_ble_eq_true rfl) rfl rfl (Nat.le_of_ble_eq_true rfl) d_J0_indexOf_7cf53_1 rfl (fun x1 => ?_)
  refine gg_br (br_if_eq (tgt := 23) (pc' := 7) d_J0_indexOf_7cf53_4 (by decide) rfl) (fun h3 => ?_) (fun h3 => ?_)
  · exact gg_none
  · refine gg_st (go_aload_n 0 d_J0_indexOf_7cf53_7 rfl rfl rfl) ?_
    refine gg_st (go_tval hw fl_J0_9 d_J0_indexOf_7cf53_8 rfl) ?_
    refine gg_st (go_iload_n 1 d_J0_indexOf_7cf53_11 rfl rfl rfl) ?_
    refine gg_st (go_iload_n 2 d_J0_indexOf_7cf53_12 rfl rfl rfl) ?_
    refine gg_st (go_aload_n 0 d_J0_indexOf_7cf53_13 rfl rfl rfl) ?_
    refine gt_I hw (k_J0_length_8abf5 l w hw  σ) ct_J0_505 (Nat.le_of_ble_eq_true rfl) rfl rfl (Nat.le_of_ble_eq_true rfl) d_J0_indexOf_7cf53_14 rfl (fun x4 => ?_)
    refine gs_I (k_J1_indexOf_4cfef l w hw F p1 p2 x4 σ) cs_J0_637 (Nat.le_of_ble_eq_true rfl) rfl rfl (Nat.le_of_ble_eq_true rfl) d_J0_indexOf_7cf53_17 rfl (fun x5 => ?_)
    refine gg_st (go_goto (pc' := 36) d_J0_indexOf_7cf53_20 (by decide)) ?_
    exact gg_iret rfl d_J0_indexOf_7cf53_36 rfl
def f_J0_indexOf_0f7a4 (F : Nat) (p1 : Int32) (σ : St) : Option (Int32) :=
  Option.bind (f_J0_indexOf_7cf53 F p1 (0 : Int32) σ) fun x1 =>
  some x1
set_option maxRecDepth 20000 in
theorem k_J0_indexOf_0f7a4 (l : Launch) (w : Wo) (hw : w.2.2.2 = true) (F : Nat) (p1 : Int32) (σ : St) : K l w shC m_J0_indexOf_0f7a4 4 [.ref (9999), .int p1] σ (f_J0_indexOf_0f7a4 F p1 σ) (rI σ) := by
  refine k_of (L := [some (.ref (9999)), some (.int p1)]) (plainFor_of_name (by decide +kernel)) 0 rfl (Nat.le_of_ble_eq_true rfl) ?_
  unfold f_J0_indexOf_0f7a4
  refine gg_st (go_aload_n 0 d_J0_indexOf_0f7a4_0 rfl rfl rfl) ?_
  refine gg_st (go_iload_n 1 d_J0_indexOf_0f7a4_1 rfl rfl rfl) ?_
  refine gg_st (go_iconst d_J0_indexOf_0f7a4_2 ci_0 rfl) ?_
  refine gt_I hw (k_J0_indexOf_7cf53 l w hw F p1 (0 : Int32) σ) ct_J0_633 (Nat.le_of_ble_eq_true rfl) rfl rfl (Nat.le_of_ble_eq_true rfl) d_J0_indexOf_0f7a4_3 rfl (fun x1 => ?_)
  exact gg_iret rfl d_J0_indexOf_0f7a4_6 rfl
def f_J7_fill_53178_L5 (F : Nat) (a na : Nat) (c1 : Int32) (c3 : Int32) : Nat → Int32 → St → Option (St)
  | 0, _, _ => none
  | n + 1, v2, g =>
    if v2 < c3 then (
      if inb v2 na then (
        Option.bind (some (seti g a (ix v2) c1)) fun s7 =>
        f_J7_fill_53178_L5 F a na c1 c3 n (v2 + (1 : Int32)) s7)
      else none)
    else (
      some g)
def f_J7_fill_53178 (F : Nat) (a na : Nat) (p1 : Int32) (σ : St) : Option (St) :=
  Option.bind (some (Int32.ofNat na)) fun x1 =>
  Option.bind (f_J7_fill_53178_L5 F a na p1 x1 F (0 : Int32) σ) fun t8 =>
  some t8
set_option maxRecDepth 20000 in
theorem g_f_J7_fill_53178_L5 (l : Launch) (w : Wo) (F : Nat) {a na : Nat} (ha : shC[a]? = some (.inl (0, na))) (c1 : Int32) (c3 : Int32) : ∀ (n : Nat) (v2 : Int32) (g : St), GG l w shC m_J7_fill_53178 1 5 [some (.ref a), some (.int c1), some (.int v2), some (.int c3)] [] g (f_J7_fill_53178_L5 F a na c1 c3 n v2 g) (fun (t : St) => .inl (20, [none, none, none, none], [], t)) := by
  intro n
  induction n with
  | zero =>
    intro v2 g
    exact gg_none
  | succ n ih =>
    intro v2 g
    rw [f_J7_fill_53178_L5]
    refine gg_st (go_iload_n 2 d_J7_fill_53178_5 rfl rfl rfl) ?_
    refine gg_st (go_iload_n 3 d_J7_fill_53178_6 rfl rfl rfl) ?_
    refine gg_br (br_icmp_ge (tgt := 20) (pc' := 10) d_J7_fill_53178_7 (by decide) rfl) (fun h5 => ?_) (fun h5 => ?_)
    · refine gg_st (go_aload_n 0 d_J7_fill_53178_10 rfl rfl rfl) ?_
      refine gg_st (go_iload_n 2 d_J7_fill_53178_11 rfl rfl rfl) ?_
      refine gg_st (go_iload_n 1 d_J7_fill_53178_12 rfl rfl rfl) ?_
      refine gg_gd (fun h6 => ?_)
      refine gg_st (go_iast ha h6 d_J7_fill_53178_13 rfl) ?_
      refine gg_som (fun s7 => ?_)
      refine gg_st (go_iinc 2 d_J7_fill_53178_14 rfl (v := v2 + (1 : Int32)) (by rw [ci_1]) (by decide) (L' := [some (.ref a), some (.int c1), some (.int (v2 + (1 : Int32))), some (.int c3)]) rfl rfl) ?_
      refine gg_st (go_goto (pc' := 5) d_J7_fill_53178_17 (by decide)) ?_
      exact ih (v2 + (1 : Int32)) s7
    · refine gg_st (go_fg [none, none, none, none] trivial) ?_
      exact gg_end rfl
set_option maxRecDepth 20000 in
theorem k_J7_fill_53178 (l : Launch) (w : Wo) (F : Nat) {a na : Nat} (ha : shC[a]? = some (.inl (0, na))) (p1 : Int32) (σ : St) : K l w shC m_J7_fill_53178 1 [.ref a, .int p1] σ (f_J7_fill_53178 F a na p1 σ) (rV) := by
  refine k_of (L := [some (.ref a), some (.int p1), none, none]) (plainFor_of_name (by decide +kernel)) 2 rfl (Nat.le_of_ble_eq_true rfl) ?_
  unfold f_J7_fill_53178
  refine gg_st (go_iconst d_J7_fill_53178_0 ci_0 rfl) ?_
  refine gg_st (go_istore_n 2 d_J7_fill_53178_1 rfl (by decide) (L' := [some (.ref a), some (.int p1), some (.int (0 : Int32)), none]) rfl rfl) ?_
  refine gg_st (go_aload_n 0 d_J7_fill_53178_2 rfl rfl rfl) ?_
  refine gg_st (go_alen ha (v := Int32.ofNat na) rfl d_J7_fill_53178_3 rfl) ?_
  refine gg_nm (fun _ => [some (.ref a), some (.int p1), some (.int (0 : Int32)), none]) (fun (x1 : Int32) => [.int x1]) (fun x1 => ?_)
  refine gg_st (go_istore_n 3 d_J7_fill_53178_4 rfl (by decide) (L' := [some (.ref a), some (.int p1), some (.int (0 : Int32)), some (.int x1)]) rfl rfl) ?_
  refine gg_bind 20 (fun (t8 : St) => [none, none, none, none]) (fun (t8 : St) => []) (fun (t8 : St) => t8) (g_f_J7_fill_53178_L5 l w F ha p1 x1 F (0 : Int32) σ) (fun t8 => ?_)
  exact gg_vret rfl d_J7_fill_53178_20 rfl
def f_J9_floorMod_7cf53 (p1 : Int32) (p2 : Int32) : Option (Int32) :=
  if ¬ p2 = 0 then (
    Option.bind (some (p1 - p1 / p2 * p2)) fun x2 =>
    if ((p1 ^^^ p2) < 0) ∧ (¬ (x2 = 0)) then (
      some (x2 + p2))
    else (
      some x2))
  else none
set_option maxRecDepth 20000 in
theorem k_J9_floorMod_7cf53 (l : Launch) (w : Wo) (p1 : Int32) (p2 : Int32) (σ : St) : K l w shC m_J9_floorMod_7cf53 1 [.int p1, .int p2] σ (f_J9_floorMod_7cf53 p1 p2) (rI σ) := by
  refine k_of (L := [some (.int p1), some (.int p2), none]) (by decide +kernel) 1 rfl (Nat.le_of_ble_eq_true rfl) ?_
  unfold f_J9_floorMod_7cf53
  refine gg_st (go_iload_n 0 d_J9_floorMod_7cf53_0 rfl rfl rfl) ?_
  refine gg_st (go_iload_n 1 d_J9_floorMod_7cf53_1 rfl rfl rfl) ?_
  refine gg_gd (fun h1 => ?_)
  refine gg_st (go_irem d_J9_floorMod_7cf53_2 h1 rfl) ?_
  refine gg_nm (fun _ => [some (.int p1), some (.int p2), none]) (fun (x2 : Int32) => [.int x2]) (fun x2 => ?_)
  refine gg_st (go_istore_n 2 d_J9_floorMod_7cf53_3 rfl (by decide) (L' := [some (.int p1), some (.int p2), some (.int x2)]) rfl rfl) ?_
  refine gg_st (go_iload_n 0 d_J9_floorMod_7cf53_4 rfl rfl rfl) ?_
  refine gg_st (go_iload_n 1 d_J9_floorMod_7cf53_5 rfl rfl rfl) ?_
  refine gg_st (go_ixor d_J9_floorMod_7cf53_6 rfl) ?_
  refine gg_two (c := ((p1 ^^^ p2) < 0) ∧ (¬ (x2 = 0))) (pA := 14) (pB := 18) (LL := [some (.int p1), some (.int p2), some (.int x2)]) (ss := []) ?_ ?_ (fun hA3 hB4 => ?_)
  · refine gg_st (go_iload_n 2 d_J9_floorMod_7cf53_14 rfl rfl rfl) ?_
    refine gg_st (go_iload_n 1 d_J9_floorMod_7cf53_15 rfl rfl rfl) ?_
    refine gg_st (go_iadd d_J9_floorMod_7cf53_16 rfl) ?_
    exact gg_iret rfl d_J9_floorMod_7cf53_17 rfl
  · refine gg_st (go_iload_n 2 d_J9_floorMod_7cf53_18 rfl rfl rfl) ?_
    exact gg_iret rfl d_J9_floorMod_7cf53_19 rfl
  refine gg_brs (br_if_ge (tgt := 18) (pc' := 10) d_J9_floorMod_7cf53_7 (by decide) rfl) (fun h5 => ?_) (fun h5 => ?_)
  · refine gg_st (go_iload_n 2 d_J9_floorMod_7cf53_10 rfl rfl rfl) ?_
    refine gg_brs (br_if_eq (tgt := 18) (pc' := 14) d_J9_floorMod_7cf53_11 (by decide) rfl) (fun h6 => ?_) (fun h6 => ?_)
    · exact gg_eq (if_neg (fun z => (fun z => z h6) z.2)) hB4
    · exact gg_eq (if_pos ⟨h5, h6⟩) hA3
  · exact gg_eq (if_neg (fun z => h5 z.1)) hB4
def f_X11_isInside (p1 : Int32) (p2 : Int32) : Int32 :=
  if (0 ≤ p1) ∧ (p1 < p2) then (
    (1 : Int32))
  else (
    (0 : Int32))
set_option maxRecDepth 20000 in
theorem k_X11_isInside (l : Launch) (w : Wo) (p1 : Int32) (p2 : Int32) (σ : St) : K l w shC m_X11_isInside 1 [.int p1, .int p2] σ (some (f_X11_isInside p1 p2)) (rI σ) := by
  refine k_of (L := [some (.int p1), some (.int p2)]) (plainFor_of_name (by decide +kernel)) 0 rfl (Nat.le_of_ble_eq_true rfl) ?_
  unfold f_X11_isInside
  refine gg_st (go_iload_n 0 d_X11_isInside_0 rfl rfl rfl) ?_
  refine gg_twov (c := (0 ≤ p1) ∧ (p1 < p2)) (pA := 9) (pB := 13) (LL := [some (.int p1), some (.int p2)]) (ss := []) ?_ ?_ (fun hA1 hB2 => ?_)
  · refine gg_st (go_iconst d_X11_isInside_9 ci_1 rfl) ?_
    refine gg_st (go_goto (pc' := 14) d_X11_isInside_10 (by decide)) ?_
    exact gg_zret (Or.inr rfl) rfl d_X11_isInside_14 rfl
  · refine gg_st (go_iconst d_X11_isInside_13 ci_0 rfl) ?_
    exact gg_zret (Or.inl rfl) rfl d_X11_isInside_14 rfl
  refine gg_brs (br_if_lt (tgt := 13) (pc' := 4) d_X11_isInside_1 (by decide) rfl) (fun h3 => ?_) (fun h3 => ?_)
  · refine gg_st (go_iload_n 0 d_X11_isInside_4 rfl rfl rfl) ?_
    refine gg_st (go_iload_n 1 d_X11_isInside_5 rfl rfl rfl) ?_
    refine gg_brs (br_icmp_ge (tgt := 13) (pc' := 9) d_X11_isInside_6 (by decide) rfl) (fun h4 => ?_) (fun h4 => ?_)
    · exact gg_eq (congrArg some (if_pos ⟨h3, h4⟩)) hA1
    · exact gg_eq (congrArg some (if_neg (fun z => h4 z.2))) hB2
  · exact gg_eq (congrArg some (if_neg (fun z => h3 z.1))) hB2
def f_X4_kindOf (a : Nat) (p1 : Int32) (σ : St) : Option (Int32) :=
  Option.bind (some (f_X11_isInside p1 (400 : Int32))) fun x1 =>
  if x1 = 0 then (
    some (-1 : Int32))
  else (
    if inb p1 400 then (
      some (σ.1 (a + 1) (ix p1)))
    else none)
set_option maxRecDepth 20000 in
theorem k_X4_kindOf (l : Launch) (w : Wo) {a : Nat} (ha : a ∈ st39_43_47_51_77) (p1 : Int32) (σ : St) : K l w shC m_X4_kindOf 2 [.ref a, .int p1] σ (f_X4_kindOf a p1 σ) (rI σ) := by
  refine k_of (L := [some (.ref a), some (.int p1)]) (plainFor_of_name (by decide +kernel)) 0 rfl (Nat.le_of_ble_eq_true rfl) ?_
  unfold f_X4_kindOf
  refine gg_st (go_iload_n 1 d_X4_kindOf_0 rfl rfl rfl) ?_
  refine gg_st (go_sipush d_X4_kindOf_1 cs_400 rfl) ?_
  refine gs_I (k_X11_isInside l w p1 (400 : Int32) σ) cs_X4_46 (Nat.le_of_ble_eq_true rfl) rfl rfl (Nat.le_of_ble_eq_true rfl) d_X4_kindOf_4 rfl (fun x1 => ?_)
  refine gg_br (br_if_eq (tgt := 19) (pc' := 10) d_X4_kindOf_7 (by decide) rfl) (fun h3 => ?_) (fun h3 => ?_)
  · refine gg_st (go_iconst d_X4_kindOf_19 ci_m1 rfl) ?_
    exact gg_iret rfl d_X4_kindOf_20 rfl
  · refine gg_st (go_aload_n 0 d_X4_kindOf_10 rfl rfl rfl) ?_
    refine gg_st (go_getR (j := 0) cf4 (sC_st39_43_47_51_77_0 ha) rfl (by decide) fl_X4_9 d_X4_kindOf_11 rfl) ?_
    refine gg_st (go_iload_n 1 d_X4_kindOf_14 rfl rfl rfl) ?_
    refine gg_gd (fun h4 => ?_)
    refine gg_st (go_iald (sC_st39_43_47_51_77_1 ha) h4 d_X4_kindOf_15 rfl) ?_
    refine gg_st (go_goto (pc' := 20) d_X4_kindOf_16 (by decide)) ?_
    exact gg_iret rfl d_X4_kindOf_20 rfl
def f_X11_agentOf (p1 : Int32) : Int32 :=
  p1 >>> ((3 : Int32) &&& 31)
set_option maxRecDepth 20000 in
theorem k_X11_agentOf (l : Launch) (w : Wo) (p1 : Int32) (σ : St) : K l w shC m_X11_agentOf 1 [.int p1] σ (some (f_X11_agentOf p1)) (rI σ) := by
  refine k_of (L := [some (.int p1)]) (plainFor_of_name (by decide +kernel)) 0 rfl (Nat.le_of_ble_eq_true rfl) ?_
  unfold f_X11_agentOf
  refine gg_st (go_iload_n 0 d_X11_agentOf_0 rfl rfl rfl) ?_
  refine gg_st (go_iconst d_X11_agentOf_1 ci_3 rfl) ?_
  refine gg_st (go_ishr d_X11_agentOf_2 rfl) ?_
  exact gg_iret rfl d_X11_agentOf_3 rfl
def f_X11_portOf (p1 : Int32) : Int32 :=
  p1 &&& (7 : Int32)
set_option maxRecDepth 20000 in
theorem k_X11_portOf (l : Launch) (w : Wo) (p1 : Int32) (σ : St) : K l w shC m_X11_portOf 1 [.int p1] σ (some (f_X11_portOf p1)) (rI σ) := by
  refine k_of (L := [some (.int p1)]) (plainFor_of_name (by decide +kernel)) 0 rfl (Nat.le_of_ble_eq_true rfl) ?_
  unfold f_X11_portOf
  refine gg_st (go_iload_n 0 d_X11_portOf_0 rfl rfl rfl) ?_
  refine gg_st (go_bipush d_X11_portOf_1 cb_7 rfl) ?_
  refine gg_st (go_iand d_X11_portOf_3 rfl) ?_
  exact gg_iret rfl d_X11_portOf_4 rfl
def f_X4_has (p1 : Int32) (σ : St) : Option (Int32) :=
  if (0 ≤ p1) ∧ (p1 < (400 : Int32)) then (
    if inb p1 400 then (
      if (σ.1 (78) (ix p1)) = (-1 : Int32) then (
        some (0 : Int32))
      else (
        some (1 : Int32)))
    else none)
  else (
    some (0 : Int32))
set_option maxRecDepth 20000 in
theorem k_X4_has (l : Launch) (w : Wo) (p1 : Int32) (σ : St) : K l w shC m_X4_has 1 [.ref (77), .int p1] σ (f_X4_has p1 σ) (rI σ) := by
  refine k_of (L := [some (.ref (77)), some (.int p1)]) (plainFor_of_name (by decide +kernel)) 0 rfl (Nat.le_of_ble_eq_true rfl) ?_
  unfold f_X4_has
  refine gg_st (go_iload_n 1 d_X4_has_0 rfl rfl rfl) ?_
  refine gg_two (c := (0 ≤ p1) ∧ (p1 < (400 : Int32))) (pA := 11) (pB := 25) (LL := [some (.ref (77)), some (.int p1)]) (ss := []) ?_ ?_ (fun hA4 hB5 => ?_)
  · refine gg_st (go_aload_n 0 d_X4_has_11 rfl rfl rfl) ?_
    refine gg_st (go_getR (j := 0) cf4 sC_77 rfl (by decide) fl_X4_9 d_X4_has_12 rfl) ?_
    refine gg_st (go_iload_n 1 d_X4_has_15 rfl rfl rfl) ?_
    refine gg_gd (fun h2 => ?_)
    refine gg_st (go_iald sC_78 h2 d_X4_has_16 rfl) ?_
    refine gg_st (go_iconst d_X4_has_17 ci_m1 rfl) ?_
    refine gg_br (br_icmp_eq (tgt := 25) (pc' := 21) d_X4_has_18 (by decide) rfl) (fun h3 => ?_) (fun h3 => ?_)
    · refine gg_st (go_iconst d_X4_has_25 ci_0 rfl) ?_
      exact gg_zret (Or.inl rfl) rfl d_X4_has_26 rfl
    · refine gg_st (go_iconst d_X4_has_21 ci_1 rfl) ?_
      refine gg_st (go_goto (pc' := 26) d_X4_has_22 (by decide)) ?_
      exact gg_zret (Or.inr rfl) rfl d_X4_has_26 rfl
  · refine gg_st (go_iconst d_X4_has_25 ci_0 rfl) ?_
    exact gg_zret (Or.inl rfl) rfl d_X4_has_26 rfl
  refine gg_brs (br_if_lt (tgt := 25) (pc' := 4) d_X4_has_1 (by decide) rfl) (fun h6 => ?_) (fun h6 => ?_)
  · refine gg_st (go_iload_n 1 d_X4_has_4 rfl rfl rfl) ?_
    refine gg_st (go_sipush d_X4_has_5 cs_400 rfl) ?_
    refine gg_brs (br_icmp_ge (tgt := 25) (pc' := 11) d_X4_has_8 (by decide) rfl) (fun h7 => ?_) (fun h7 => ?_)
    · exact gg_eq (if_pos ⟨h6, h7⟩) hA4
    · exact gg_eq (if_neg (fun z => h7 z.2)) hB5
  · exact gg_eq (if_neg (fun z => h6 z.1)) hB5
def f_X4_mateOf (p1 : Int32) (σ : St) : Option (Int32) :=
  Option.bind (f_X4_has p1 σ) fun x1 =>
  Option.bind (
    if x1 = 0 then (
      some (-1 : Int32))
    else (
      if inb (p1 * (8 : Int32)) 3200 then (
        some (σ.1 (79) (ix (p1 * (8 : Int32)))))
      else none)) fun t2 =>
  if (0 ≤ t2) ∧ ((f_X11_portOf t2) = 0) then (
    Option.bind (some (f_X11_agentOf t2)) fun x6 =>
    some x6)
  else (
    some (-1 : Int32))
set_option maxRecDepth 20000 in
theorem k_X4_mateOf (l : Launch) (w : Wo) (p1 : Int32) (σ : St) : K l w shC m_X4_mateOf 2 [.ref (77), .int p1] σ (f_X4_mateOf p1 σ) (rI σ) := by
  refine k_of (L := [some (.ref (77)), some (.int p1), none]) (plainFor_of_name (by decide +kernel)) 1 rfl (Nat.le_of_ble_eq_true rfl) ?_
  unfold f_X4_mateOf
  refine gg_st (go_aload_n 0 d_X4_mateOf_0 rfl rfl rfl) ?_
  refine gg_st (go_iload_n 1 d_X4_mateOf_1 rfl rfl rfl) ?_
  refine gv_I (k_X4_has l w p1 σ) cv_X4_56 sC_77 (Nat.le_of_ble_eq_true rfl) rfl rfl (Nat.le_of_ble_eq_true rfl) d_X4_mateOf_2 rfl (fun x1 => ?_)
  refine gg_bind 21 (fun (t2 : Int32) => [none, none, none]) (fun (t2 : Int32) => [.int t2]) (fun (t2 : Int32) => σ) ?_ (fun t2 => ?_)
  · refine gg_br (br_if_eq (tgt := 20) (pc' := 8) d_X4_mateOf_5 (by decide) rfl) (fun h4 => ?_) (fun h4 => ?_)
    · refine gg_st (go_iconst d_X4_mateOf_20 ci_m1 rfl) ?_
      refine gg_st (go_fg [none, none, none] trivial) ?_
      exact gg_end rfl
    · refine gg_st (go_aload_n 0 d_X4_mateOf_8 rfl rfl rfl) ?_
      refine gg_st (go_getR (j := 1) cf4 sC_77 rfl (by decide) fl_X4_15 d_X4_mateOf_9 rfl) ?_
      refine gg_st (go_iload_n 1 d_X4_mateOf_12 rfl rfl rfl) ?_
      refine gg_st (go_bipush d_X4_mateOf_13 cb_8 rfl) ?_
      refine gg_st (go_imul d_X4_mateOf_15 rfl) ?_
      refine gg_gd (fun h5 => ?_)
      refine gg_st (go_iald sC_79 h5 d_X4_mateOf_16 rfl) ?_
      refine gg_st (go_goto (pc' := 21) d_X4_mateOf_17 (by decide)) ?_
      refine gg_st (go_fg [none, none, none] trivial) ?_
      exact gg_end rfl
  · refine gg_st (go_istore_n 2 d_X4_mateOf_21 rfl (by decide) (L' := [none, none, some (.int t2)]) rfl rfl) ?_
    refine gg_st (go_iload_n 2 d_X4_mateOf_22 rfl rfl rfl) ?_
    refine gg_two (c := (0 ≤ t2) ∧ ((f_X11_portOf t2) = 0)) (pA := 33) (pB := 40) (LL := [none, none, some (.int t2)]) (ss := []) ?_ ?_ (fun hA7 hB8 => ?_)
    · refine gg_st (go_iload_n 2 d_X4_mateOf_33 rfl rfl rfl) ?_
      refine gs_I (k_X11_agentOf l w t2 σ) cs_X4_74 (Nat.le_of_ble_eq_true rfl) rfl rfl (Nat.le_of_ble_eq_true rfl) d_X4_mateOf_34 rfl (fun x6 => ?_)
      refine gg_st (go_goto (pc' := 41) d_X4_mateOf_37 (by decide)) ?_
      exact gg_iret rfl d_X4_mateOf_41 rfl
    · refine gg_st (go_iconst d_X4_mateOf_40 ci_m1 rfl) ?_
      exact gg_iret rfl d_X4_mateOf_41 rfl
    refine gg_brs (br_if_lt (tgt := 40) (pc' := 26) d_X4_mateOf_23 (by decide) rfl) (fun h9 => ?_) (fun h9 => ?_)
    · refine gg_st (go_iload_n 2 d_X4_mateOf_26 rfl rfl rfl) ?_
      refine gg_st (go_sI (k_X11_portOf l w t2 σ) cs_X4_71 (Nat.le_of_ble_eq_true rfl) rfl rfl (Nat.le_of_ble_eq_true rfl) d_X4_mateOf_27 rfl) ?_
      refine gg_brs (br_if_ne (tgt := 40) (pc' := 33) d_X4_mateOf_30 (by decide) rfl) (fun h10 => ?_) (fun h10 => ?_)
      · exact gg_eq (if_pos ⟨h9, h10⟩) hA7
      · exact gg_eq (if_neg (fun z => h10 z.2)) hB8
    · exact gg_eq (if_neg (fun z => h9 z.1)) hB8
def f_X8_ruleFor (a : Nat) (p1 : Int32) (p2 : Int32) (σ : St) : Option (Int32) :=
  Option.bind (some (f_X11_isInside p1 (16 : Int32))) fun x1 =>
  if (x1 = 0) ∨ ((f_X11_isInside p2 (16 : Int32)) = 0) then (
    some (-1 : Int32))
  else (
    if inb ((p1 * (16 : Int32)) + p2) 256 then (
      some (σ.1 (a + 1) (ix ((p1 * (16 : Int32)) + p2))))
    else none)
set_option maxRecDepth 20000 in
theorem k_X8_ruleFor (l : Launch) (w : Wo) {a : Nat} (ha : a ∈ st19_69) (p1 : Int32) (p2 : Int32) (σ : St) : K l w shC m_X8_ruleFor 2 [.ref a, .int p1, .int p2] σ (f_X8_ruleFor a p1 p2 σ) (rI σ) := by
  refine k_of (L := [some (.ref a), some (.int p1), some (.int p2)]) (plainFor_of_name (by decide +kernel)) 0 rfl (Nat.le_of_ble_eq_true rfl) ?_
  unfold f_X8_ruleFor
  refine gg_st (go_iload_n 1 d_X8_ruleFor_0 rfl rfl rfl) ?_
  refine gg_st (go_bipush d_X8_ruleFor_1 cb_16 rfl) ?_
  refine gs_I (k_X11_isInside l w p1 (16 : Int32) σ) cs_X8_43 (Nat.le_of_ble_eq_true rfl) rfl rfl (Nat.le_of_ble_eq_true rfl) d_X8_ruleFor_3 rfl (fun x1 => ?_)
  refine gg_two (c := (x1 = 0) ∨ ((f_X11_isInside p2 (16 : Int32)) = 0)) (pA := 32) (pB := 18) (LL := [some (.ref a), some (.int p1), some (.int p2)]) (ss := []) ?_ ?_ (fun hA4 hB5 => ?_)
  · refine gg_st (go_iconst d_X8_ruleFor_32 ci_m1 rfl) ?_
    exact gg_iret rfl d_X8_ruleFor_33 rfl
  · refine gg_st (go_aload_n 0 d_X8_ruleFor_18 rfl rfl rfl) ?_
    refine gg_st (go_getR (j := 0) cf8 (sC_st19_69_0 ha) rfl (by decide) fl_X8_9 d_X8_ruleFor_19 rfl) ?_
    refine gg_st (go_iload_n 1 d_X8_ruleFor_22 rfl rfl rfl) ?_
    refine gg_st (go_bipush d_X8_ruleFor_23 cb_16 rfl) ?_
    refine gg_st (go_imul d_X8_ruleFor_25 rfl) ?_
    refine gg_st (go_iload_n 2 d_X8_ruleFor_26 rfl rfl rfl) ?_
    refine gg_st (go_iadd d_X8_ruleFor_27 rfl) ?_
    refine gg_gd (fun h3 => ?_)
    refine gg_st (go_iald (sC_st19_69_1 ha) h3 d_X8_ruleFor_28 rfl) ?_
    refine gg_st (go_goto (pc' := 33) d_X8_ruleFor_29 (by decide)) ?_
    exact gg_iret rfl d_X8_ruleFor_33 rfl
  refine gg_brs (br_if_eq (tgt := 32) (pc' := 9) d_X8_ruleFor_6 (by decide) rfl) (fun h6 => ?_) (fun h6 => ?_)
  · exact gg_eq (if_pos (Or.inl h6)) hA4
  · refine gg_st (go_iload_n 2 d_X8_ruleFor_9 rfl rfl rfl) ?_
    refine gg_st (go_bipush d_X8_ruleFor_10 cb_16 rfl) ?_
    refine gg_st (go_sI (k_X11_isInside l w p2 (16 : Int32) σ) cs_X8_43 (Nat.le_of_ble_eq_true rfl) rfl rfl (Nat.le_of_ble_eq_true rfl) d_X8_ruleFor_12 rfl) ?_
    refine gg_brs (br_if_eq (tgt := 32) (pc' := 18) d_X8_ruleFor_15 (by decide) rfl) (fun h7 => ?_) (fun h7 => ?_)
    · exact gg_eq (if_pos (Or.inr h7)) hA4
    · exact gg_eq (if_neg (fun z => z.elim h6 h7)) hB5
def f_X0_aliveRule (p1 : Int32) (σ : St) : Option (Int32) :=
  Option.bind (f_X4_mateOf p1 σ) fun x1 =>
  if x1 = (-1 : Int32) then (
    some (-1 : Int32))
  else (
    Option.bind (f_X4_kindOf (77) p1 σ) fun x3 =>
    Option.bind (f_X4_kindOf (77) x1 σ) fun x4 =>
    Option.bind (f_X8_ruleFor (69) x3 x4 σ) fun x5 =>
    some x5)
set_option maxRecDepth 20000 in
theorem k_X0_aliveRule (l : Launch) (w : Wo) (p1 : Int32) (σ : St) : K l w shC m_X0_aliveRule 3 [.ref (64), .int p1] σ (f_X0_aliveRule p1 σ) (rI σ) := by
  refine k_of (L := [some (.ref (64)), some (.int p1), none]) (plainFor_of_name (by decide +kernel)) 1 rfl (Nat.le_of_ble_eq_true rfl) ?_
  unfold f_X0_aliveRule
  refine gg_st (go_aload_n 0 d_X0_aliveRule_0 rfl rfl rfl) ?_
  refine gg_st (go_getR (j := 2) cf0 sC_64 rfl (by decide) fl_X0_28 d_X0_aliveRule_1 rfl) ?_
  refine gg_st (go_iload_n 1 d_X0_aliveRule_4 rfl rfl rfl) ?_
  refine gv_I (k_X4_mateOf l w p1 σ) cv_X0_40 sC_77 (Nat.le_of_ble_eq_true rfl) rfl rfl (Nat.le_of_ble_eq_true rfl) d_X0_aliveRule_5 rfl (fun x1 => ?_)
  refine gg_st (go_istore_n 2 d_X0_aliveRule_8 rfl (by decide) (L' := [some (.ref (64)), some (.int p1), some (.int x1)]) rfl rfl) ?_
  refine gg_st (go_iload_n 2 d_X0_aliveRule_9 rfl rfl rfl) ?_
  refine gg_st (go_iconst d_X0_aliveRule_10 ci_m1 rfl) ?_
  refine gg_br (br_icmp_ne (tgt := 18) (pc' := 14) d_X0_aliveRule_11 (by decide) rfl) (fun h2 => ?_) (fun h2 => ?_)
  · refine gg_st (go_iconst d_X0_aliveRule_14 ci_m1 rfl) ?_
    refine gg_st (go_goto (pc' := 41) d_X0_aliveRule_15 (by decide)) ?_
    exact gg_iret rfl d_X0_aliveRule_41 rfl
  · refine gg_st (go_aload_n 0 d_X0_aliveRule_18 rfl rfl rfl) ?_
    refine gg_st (go_getR (j := 1) cf0 sC_64 rfl (by decide) fl_X0_21 d_X0_aliveRule_19 rfl) ?_
    refine gg_st (go_aload_n 0 d_X0_aliveRule_22 rfl rfl rfl) ?_
    refine gg_st (go_getR (j := 2) cf0 sC_64 rfl (by decide) fl_X0_28 d_X0_aliveRule_23 rfl) ?_
    refine gg_st (go_iload_n 1 d_X0_aliveRule_26 rfl rfl rfl) ?_
    refine gv_I (k_X4_kindOf l w (show 77 ∈ st39_43_47_51_77 by decide) p1 σ) cv_X0_44 sC_77 (Nat.le_of_ble_eq_true rfl) rfl rfl (Nat.le_of_ble_eq_true rfl) d_X0_aliveRule_27 rfl (fun x3 => ?_)
    refine gg_st (go_aload_n 0 d_X0_aliveRule_30 rfl rfl rfl) ?_
    refine gg_st (go_getR (j := 2) cf0 sC_64 rfl (by decide) fl_X0_28 d_X0_aliveRule_31 rfl) ?_
    refine gg_st (go_iload_n 2 d_X0_aliveRule_34 rfl rfl rfl) ?_
    refine gv_I (k_X4_kindOf l w (show 77 ∈ st39_43_47_51_77 by decide) x1 σ) cv_X0_44 sC_77 (Nat.le_of_ble_eq_true rfl) rfl rfl (Nat.le_of_ble_eq_true rfl) d_X0_aliveRule_35 rfl (fun x4 => ?_)
    refine gv_I (k_X8_ruleFor l w (show 69 ∈ st19_69 by decide) x3 x4 σ) cv_X0_47 sC_69 (Nat.le_of_ble_eq_true rfl) rfl rfl (Nat.le_of_ble_eq_true rfl) d_X0_aliveRule_38 rfl (fun x5 => ?_)
    exact gg_iret rfl d_X0_aliveRule_41 rfl
def f_X0_isPair (p1 : Int32) (p2 : Int32) (σ : St) : Option (Int32) :=
  Option.bind (f_X4_mateOf p1 σ) fun x1 =>
  if p1 < x1 then (
    Option.bind (f_X0_aliveRule p1 σ) fun x3 =>
    Option.bind (
      if x3 = (-1 : Int32) then (
        some (0 : Int32))
      else (
        some (1 : Int32))) fun t4 =>
    if t4 = p2 then (
      some (1 : Int32))
    else (
      some (0 : Int32)))
  else (
    some (0 : Int32))
set_option maxRecDepth 20000 in
theorem k_X0_isPair (l : Launch) (w : Wo) (p1 : Int32) (p2 : Int32) (σ : St) : K l w shC m_X0_isPair 4 [.ref (64), .int p1, .int p2] σ (f_X0_isPair p1 p2 σ) (rI σ) := by
  refine k_of (L := [some (.ref (64)), some (.int p1), some (.int p2)]) (plainFor_of_name (by decide +kernel)) 0 rfl (Nat.le_of_ble_eq_true rfl) ?_
  unfold f_X0_isPair
  refine gg_st (go_aload_n 0 d_X0_isPair_0 rfl rfl rfl) ?_
  refine gg_st (go_getR (j := 2) cf0 sC_64 rfl (by decide) fl_X0_28 d_X0_isPair_1 rfl) ?_
  refine gg_st (go_iload_n 1 d_X0_isPair_4 rfl rfl rfl) ?_
  refine gv_I (k_X4_mateOf l w p1 σ) cv_X0_40 sC_77 (Nat.le_of_ble_eq_true rfl) rfl rfl (Nat.le_of_ble_eq_true rfl) d_X0_isPair_5 rfl (fun x1 => ?_)
  refine gg_st (go_iload_n 1 d_X0_isPair_8 rfl rfl rfl) ?_
  refine gg_br (br_icmp_le (tgt := 34) (pc' := 12) d_X0_isPair_9 (by decide) rfl) (fun h2 => ?_) (fun h2 => ?_)
  · refine gg_st (go_aload_n 0 d_X0_isPair_12 rfl rfl rfl) ?_
    refine gg_st (go_iload_n 1 d_X0_isPair_13 rfl rfl rfl) ?_
    refine gv_I (k_X0_aliveRule l w p1 σ) cv_X0_51 sC_64 (Nat.le_of_ble_eq_true rfl) rfl rfl (Nat.le_of_ble_eq_true rfl) d_X0_isPair_14 rfl (fun x3 => ?_)
    refine gg_st (go_iconst d_X0_isPair_17 ci_m1 rfl) ?_
    refine gg_bind 26 (fun (t4 : Int32) => [none, none, some (.int p2)]) (fun (t4 : Int32) => [.int t4]) (fun (t4 : Int32) => σ) ?_ (fun t4 => ?_)
    · refine gg_br (br_icmp_eq (tgt := 25) (pc' := 21) d_X0_isPair_18 (by decide) rfl) (fun h5 => ?_) (fun h5 => ?_)
      · refine gg_st (go_iconst d_X0_isPair_25 ci_0 rfl) ?_
        refine gg_st (go_fg [none, none, some (.int p2)] ⟨rfl, trivial⟩) ?_
        exact gg_end rfl
      · refine gg_st (go_iconst d_X0_isPair_21 ci_1 rfl) ?_
        refine gg_st (go_goto (pc' := 26) d_X0_isPair_22 (by decide)) ?_
        refine gg_st (go_fg [none, none, some (.int p2)] ⟨rfl, trivial⟩) ?_
        exact gg_end rfl
    · refine gg_st (go_iload_n 2 d_X0_isPair_26 rfl rfl rfl) ?_
      refine gg_br (br_icmp_ne (tgt := 34) (pc' := 30) d_X0_isPair_27 (by decide) rfl) (fun h6 => ?_) (fun h6 => ?_)
      · refine gg_st (go_iconst d_X0_isPair_30 ci_1 rfl) ?_
        refine gg_st (go_goto (pc' := 35) d_X0_isPair_31 (by decide)) ?_
        exact gg_zret (Or.inr rfl) rfl d_X0_isPair_35 rfl
      · refine gg_st (go_iconst d_X0_isPair_34 ci_0 rfl) ?_
        exact gg_zret (Or.inl rfl) rfl d_X0_isPair_35 rfl
  · refine gg_st (go_iconst d_X0_isPair_34 ci_0 rfl) ?_
    exact gg_zret (Or.inl rfl) rfl d_X0_isPair_35 rfl
def f_X0_alivePairAt_L4 (F : Nat) (σ : St) : Nat → Int32 → Int32 → Option (Int32)
  | 0, _, _ => none
  | n + 1, v1, v2 =>
    if (v2 < (σ.1 (77) 6)) ∧ (0 ≤ v1) then (
      Option.bind (f_X0_isPair v2 (1 : Int32) σ) fun x3 =>
      Option.bind (some (fun (t4 : Int32) =>
        f_X0_alivePairAt_L4 F σ n t4 (v2 + (1 : Int32)))) fun jp5 =>
      if x3 = 0 then (
        jp5 v1)
      else (
        if v1 = 0 then (
          some v2)
        else (
          Option.bind (some (v1 + (-1 : Int32))) fun x8 =>
          jp5 x8)))
    else (
      some (-1 : Int32))
def f_X0_alivePairAt (F : Nat) (p1 : Int32) (σ : St) : Option (Int32) :=
  f_X0_alivePairAt_L4 F σ F p1 (0 : Int32)
set_option maxRecDepth 20000 in
theorem g_f_X0_alivePairAt_L4 (l : Launch) (w : Wo) (F : Nat) (σ : St) : ∀ (n : Nat) (v1 : Int32) (v2 : Int32), GG l w shC m_X0_alivePairAt 5 4 [some (.ref (64)), none, some (.int v1), some (.int v2)] [] σ (f_X0_alivePairAt_L4 F σ n v1 v2) (fun q => .inr ((rI σ) q)) := by
  intro n
  induction n with
  | zero =>
    intro v1 v2
    exact gg_none
  | succ n ih =>
    intro v1 v2
    rw [f_X0_alivePairAt_L4]
    refine gg_st (go_iload_n 3 d_X0_alivePairAt_4 rfl rfl rfl) ?_
    refine gg_st (go_aload_n 0 d_X0_alivePairAt_5 rfl rfl rfl) ?_
    refine gg_st (go_getR (j := 2) cf0 sC_64 rfl (by decide) fl_X0_28 d_X0_alivePairAt_6 rfl) ?_
    refine gg_st (go_getI (j := 6) cf4 sC_77 rfl (by decide) fl_X0_54 d_X0_alivePairAt_9 rfl) ?_
    refine gg_two (c := (v2 < (σ.1 (77) 6)) ∧ (0 ≤ v1)) (pA := 19) (pB := 43) (LL := [some (.ref (64)), none, some (.int v1), some (.int v2)]) (ss := []) ?_ ?_ (fun hA9 hB10 => ?_)
    · refine gg_st (go_aload_n 0 d_X0_alivePairAt_19 rfl rfl rfl) ?_
      refine gg_st (go_iload_n 3 d_X0_alivePairAt_20 rfl rfl rfl) ?_
      refine gg_st (go_iconst d_X0_alivePairAt_21 ci_1 rfl) ?_
      refine gv_I (k_X0_isPair l w v2 (1 : Int32) σ) cv_X0_57 sC_64 (Nat.le_of_ble_eq_true rfl) rfl rfl (Nat.le_of_ble_eq_true rfl) d_X0_alivePairAt_22 rfl (fun x3 => ?_)
      refine gg_jp 37 (fun (t4 : Int32) => [some (.ref (64)), none, some (.int t4), some (.int v2)]) (fun (t4 : Int32) => []) (fun (t4 : Int32) => σ) (fun t4 => ?_) (fun jp5 hjp5 => ?_)
      · refine gg_st (go_iinc 3 d_X0_alivePairAt_37 rfl (v := v2 + (1 : Int32)) (by rw [ci_1]) (by decide) (L' := [some (.ref (64)), none, some (.int t4), some (.int (v2 + (1 : Int32)))]) rfl rfl) ?_
        refine gg_st (go_goto (pc' := 4) d_X0_alivePairAt_40 (by decide)) ?_
        exact ih t4 (v2 + (1 : Int32))
      refine gg_br (br_if_eq (tgt := 37) (pc' := 28) d_X0_alivePairAt_25 (by decide) rfl) (fun h6 => ?_) (fun h6 => ?_)
      · exact hjp5 v1
      · refine gg_st (go_iload_n 2 d_X0_alivePairAt_28 rfl rfl rfl) ?_
        refine gg_br (br_if_ne (tgt := 34) (pc' := 32) d_X0_alivePairAt_29 (by decide) rfl) (fun h7 => ?_) (fun h7 => ?_)
        · refine gg_st (go_iload_n 3 d_X0_alivePairAt_32 rfl rfl rfl) ?_
          exact gg_iret rfl d_X0_alivePairAt_33 rfl
        · refine gg_st (go_iinc 2 d_X0_alivePairAt_34 rfl (v := v1 + (-1 : Int32)) (by rw [ci_m1]) (by decide) (L' := [some (.ref (64)), none, some (.int (v1 + (-1 : Int32))), some (.int v2)]) rfl rfl) ?_
          refine gg_nm (fun (x8 : Int32) => [some (.ref (64)), none, some (.int x8), some (.int v2)]) (fun _ => []) (fun x8 => ?_)
          exact hjp5 x8
    · refine gg_st (go_iconst d_X0_alivePairAt_43 ci_m1 rfl) ?_
      exact gg_iret rfl d_X0_alivePairAt_44 rfl
    refine gg_brs (br_icmp_ge (tgt := 43) (pc' := 15) d_X0_alivePairAt_12 (by decide) rfl) (fun h11 => ?_) (fun h11 => ?_)
    · refine gg_st (go_iload_n 2 d_X0_alivePairAt_15 rfl rfl rfl) ?_
      refine gg_brs (br_if_lt (tgt := 43) (pc' := 19) d_X0_alivePairAt_16 (by decide) rfl) (fun h12 => ?_) (fun h12 => ?_)
      · exact gg_eq (if_pos ⟨h11, h12⟩) hA9
      · exact gg_eq (if_neg (fun z => h12 z.2)) hB10
    · exact gg_eq (if_neg (fun z => h11 z.1)) hB10
set_option maxRecDepth 20000 in
theorem k_X0_alivePairAt (l : Launch) (w : Wo) (F : Nat) (p1 : Int32) (σ : St) : K l w shC m_X0_alivePairAt 5 [.ref (64), .int p1] σ (f_X0_alivePairAt F p1 σ) (rI σ) := by
  refine k_of (L := [some (.ref (64)), some (.int p1), none, none]) (plainFor_of_name (by decide +kernel)) 2 rfl (Nat.le_of_ble_eq_true rfl) ?_
  unfold f_X0_alivePairAt
  refine gg_st (go_iload_n 1 d_X0_alivePairAt_0 rfl rfl rfl) ?_
  refine gg_st (go_istore_n 2 d_X0_alivePairAt_1 rfl (by decide) (L' := [some (.ref (64)), some (.int p1), some (.int p1), none]) rfl rfl) ?_
  refine gg_st (go_iconst d_X0_alivePairAt_2 ci_0 rfl) ?_
  refine gg_st (go_istore_n 3 d_X0_alivePairAt_3 rfl (by decide) (L' := [some (.ref (64)), some (.int p1), some (.int p1), some (.int (0 : Int32))]) rfl rfl) ?_
  refine gg_st (go_fg [some (.ref (64)), none, some (.int p1), some (.int (0 : Int32))] ⟨rfl, ⟨rfl, ⟨rfl, trivial⟩⟩⟩) ?_
  refine g_f_X0_alivePairAt_L4 l w F σ  F p1 (0 : Int32)
def f_X4_clear (F : Nat) (σ : St) : Option (St) :=
  Option.bind (f_J7_fill_53178 F (28) 400 (-1 : Int32) σ) fun s1 =>
  Option.bind (some (seti s1 (27) 3 (0 : Int32))) fun s2 =>
  Option.bind (some (seti s2 (27) 4 (0 : Int32))) fun s3 =>
  Option.bind (some (seti s3 (27) 5 (0 : Int32))) fun s4 =>
  Option.bind (some (seti s4 (27) 6 (0 : Int32))) fun s5 =>
  some s5
set_option maxRecDepth 20000 in
theorem k_X4_clear (l : Launch) (w : Wo) (F : Nat) (σ : St) : K l w shC m_X4_clear 2 [.ref (27)] σ (f_X4_clear F σ) (rV) := by
  refine k_of (L := [some (.ref (27))]) (plainFor_of_name (by decide +kernel)) 0 rfl (Nat.le_of_ble_eq_true rfl) ?_
  unfold f_X4_clear
  refine gg_st (go_aload_n 0 d_X4_clear_0 rfl rfl rfl) ?_
  refine gg_st (go_getR (j := 0) cf4 sC_27 rfl (by decide) fl_X4_9 d_X4_clear_1 rfl) ?_
  refine gg_st (go_iconst d_X4_clear_4 ci_m1 rfl) ?_
  refine gs_V (k_J7_fill_53178 l w F sC_28 (-1 : Int32) σ) cs_X4_21 (Nat.le_of_ble_eq_true rfl) rfl rfl (Nat.le_of_ble_eq_true rfl) d_X4_clear_5 rfl (fun s1 => ?_)
  refine gg_st (go_aload_n 0 d_X4_clear_8 rfl rfl rfl) ?_
  refine gg_st (go_iconst d_X4_clear_9 ci_0 rfl) ?_
  refine gg_st (go_putI (j := 3) cf4 sC_27 rfl (by decide) rfl rfl fl_X4_27 d_X4_clear_10 rfl) ?_
  refine gg_som (fun s2 => ?_)
  refine gg_st (go_aload_n 0 d_X4_clear_13 rfl rfl rfl) ?_
  refine gg_st (go_iconst d_X4_clear_14 ci_0 rfl) ?_
  refine gg_st (go_putI (j := 4) cf4 sC_27 rfl (by decide) rfl rfl fl_X4_31 d_X4_clear_15 rfl) ?_
  refine gg_som (fun s3 => ?_)
  refine gg_st (go_aload_n 0 d_X4_clear_18 rfl rfl rfl) ?_
  refine gg_st (go_iconst d_X4_clear_19 ci_0 rfl) ?_
  refine gg_st (go_putI (j := 5) cf4 sC_27 rfl (by decide) rfl rfl fl_X4_34 d_X4_clear_20 rfl) ?_
  refine gg_som (fun s4 => ?_)
  refine gg_st (go_aload_n 0 d_X4_clear_23 rfl rfl rfl) ?_
  refine gg_st (go_iconst d_X4_clear_24 ci_0 rfl) ?_
  refine gg_st (go_putI (j := 6) cf4 sC_27 rfl (by decide) rfl rfl fl_X4_37 d_X4_clear_25 rfl) ?_
  refine gg_som (fun s5 => ?_)
  exact gg_vret rfl d_X4_clear_28 rfl
def f_X8_clear (F : Nat) (σ : St) : Option (St) :=
  Option.bind (f_J7_fill_53178 F (20) 256 (-1 : Int32) σ) fun s1 =>
  Option.bind (some (seti s1 (19) 7 (0 : Int32))) fun s2 =>
  some s2
set_option maxRecDepth 20000 in
theorem k_X8_clear (l : Launch) (w : Wo) (F : Nat) (σ : St) : K l w shC m_X8_clear 2 [.ref (19)] σ (f_X8_clear F σ) (rV) := by
  refine k_of (L := [some (.ref (19))]) (plainFor_of_name (by decide +kernel)) 0 rfl (Nat.le_of_ble_eq_true rfl) ?_
  unfold f_X8_clear
  refine gg_st (go_aload_n 0 d_X8_clear_0 rfl rfl rfl) ?_
  refine gg_st (go_getR (j := 0) cf8 sC_19 rfl (by decide) fl_X8_9 d_X8_clear_1 rfl) ?_
  refine gg_st (go_iconst d_X8_clear_4 ci_m1 rfl) ?_
  refine gs_V (k_J7_fill_53178 l w F sC_20 (-1 : Int32) σ) cs_X8_33 (Nat.le_of_ble_eq_true rfl) rfl rfl (Nat.le_of_ble_eq_true rfl) d_X8_clear_5 rfl (fun s1 => ?_)
  refine gg_st (go_aload_n 0 d_X8_clear_8 rfl rfl rfl) ?_
  refine gg_st (go_iconst d_X8_clear_9 ci_0 rfl) ?_
  refine gg_st (go_putI (j := 7) cf8 sC_19 rfl (by decide) rfl rfl fl_X8_39 d_X8_clear_10 rfl) ?_
  refine gg_som (fun s2 => ?_)
  exact gg_vret rfl d_X8_clear_13 rfl
def f_X0_clear (F : Nat) (σ : St) : Option (St) :=
  Option.bind (some (seti σ (15) 3 (0 : Int32))) fun s1 =>
  Option.bind (f_X8_clear F s1) fun s2 =>
  Option.bind (f_X4_clear F s2) fun s3 =>
  some s3
set_option maxRecDepth 20000 in
theorem k_X0_clear (l : Launch) (w : Wo) (F : Nat) (σ : St) : K l w shC m_X0_clear 3 [.ref (14)] σ (f_X0_clear F σ) (rV) := by
  refine k_of (L := [some (.ref (14))]) (plainFor_of_name (by decide +kernel)) 0 rfl (Nat.le_of_ble_eq_true rfl) ?_
  unfold f_X0_clear
  refine gg_st (go_aload_n 0 d_X0_clear_0 rfl rfl rfl) ?_
  refine gg_st (go_getR (j := 0) cf0 sC_14 rfl (by decide) fl_X0_12 d_X0_clear_1 rfl) ?_
  refine gg_st (go_iconst d_X0_clear_4 ci_0 rfl) ?_
  refine gg_st (go_putI (j := 3) cf3 sC_15 rfl (by decide) rfl rfl fl_X0_32 d_X0_clear_5 rfl) ?_
  refine gg_som (fun s1 => ?_)
  refine gg_st (go_aload_n 0 d_X0_clear_8 rfl rfl rfl) ?_
  refine gg_st (go_getR (j := 1) cf0 sC_14 rfl (by decide) fl_X0_21 d_X0_clear_9 rfl) ?_
  refine gv_V (k_X8_clear l w F  s1) cv_X0_36 sC_19 (Nat.le_of_ble_eq_true rfl) rfl rfl (Nat.le_of_ble_eq_true rfl) d_X0_clear_12 rfl (fun s2 => ?_)
  refine gg_st (go_aload_n 0 d_X0_clear_15 rfl rfl rfl) ?_
  refine gg_st (go_getR (j := 2) cf0 sC_14 rfl (by decide) fl_X0_28 d_X0_clear_16 rfl) ?_
  refine gv_V (k_X4_clear l w F  s2) cv_X0_39 sC_27 (Nat.le_of_ble_eq_true rfl) rfl rfl (Nat.le_of_ble_eq_true rfl) d_X0_clear_19 rfl (fun s3 => ?_)
  exact gg_vret rfl d_X0_clear_22 rfl
def f_X0_countPairs_L4 (F : Nat) (c1 : Int32) (σ : St) : Nat → Int32 → Int32 → Option (Int32)
  | 0, _, _ => none
  | n + 1, v1, v2 =>
    if v2 < (σ.1 (77) 6) then (
      Option.bind (f_X0_isPair v2 c1 σ) fun x4 =>
      Option.bind (
        if x4 = 0 then (
          some v1)
        else (
          Option.bind (some (v1 + (1 : Int32))) fun x7 =>
          some x7)) fun t5 =>
      f_X0_countPairs_L4 F c1 σ n t5 (v2 + (1 : Int32)))
    else (
      some v1)
def f_X0_countPairs (F : Nat) (p1 : Int32) (σ : St) : Option (Int32) :=
  Option.bind (f_X0_countPairs_L4 F p1 σ F (0 : Int32) (0 : Int32)) fun t8 =>
  some t8
set_option maxRecDepth 20000 in
theorem g_f_X0_countPairs_L4 (l : Launch) (w : Wo) (F : Nat) (c1 : Int32) (σ : St) : ∀ (n : Nat) (v1 : Int32) (v2 : Int32), GG l w shC m_X0_countPairs 5 4 [some (.ref (64)), some (.int c1), some (.int v1), some (.int v2)] [] σ (f_X0_countPairs_L4 F c1 σ n v1 v2) (fun (t : Int32) => .inl (33, [none, none, some (.int t), none], [], σ)) := by
  intro n
  induction n with
  | zero =>
    intro v1 v2
    exact gg_none
  | succ n ih =>
    intro v1 v2
    rw [f_X0_countPairs_L4]
    refine gg_st (go_iload_n 3 d_X0_countPairs_4 rfl rfl rfl) ?_
    refine gg_st (go_aload_n 0 d_X0_countPairs_5 rfl rfl rfl) ?_
    refine gg_st (go_getR (j := 2) cf0 sC_64 rfl (by decide) fl_X0_28 d_X0_countPairs_6 rfl) ?_
    refine gg_st (go_getI (j := 6) cf4 sC_77 rfl (by decide) fl_X0_54 d_X0_countPairs_9 rfl) ?_
    refine gg_br (br_icmp_ge (tgt := 33) (pc' := 15) d_X0_countPairs_12 (by decide) rfl) (fun h3 => ?_) (fun h3 => ?_)
    · refine gg_st (go_aload_n 0 d_X0_countPairs_15 rfl rfl rfl) ?_
      refine gg_st (go_iload_n 3 d_X0_countPairs_16 rfl rfl rfl) ?_
      refine gg_st (go_iload_n 1 d_X0_countPairs_17 rfl rfl rfl) ?_
      refine gv_I (k_X0_isPair l w v2 c1 σ) cv_X0_57 sC_64 (Nat.le_of_ble_eq_true rfl) rfl rfl (Nat.le_of_ble_eq_true rfl) d_X0_countPairs_18 rfl (fun x4 => ?_)
      refine gg_bind 27 (fun (t5 : Int32) => [some (.ref (64)), some (.int c1), some (.int t5), some (.int v2)]) (fun (t5 : Int32) => []) (fun (t5 : Int32) => σ) ?_ (fun t5 => ?_)
      · refine gg_br (br_if_eq (tgt := 27) (pc' := 24) d_X0_countPairs_21 (by decide) rfl) (fun h6 => ?_) (fun h6 => ?_)
        · exact gg_end rfl
        · refine gg_st (go_iinc 2 d_X0_countPairs_24 rfl (v := v1 + (1 : Int32)) (by rw [ci_1]) (by decide) (L' := [some (.ref (64)), some (.int c1), some (.int (v1 + (1 : Int32))), some (.int v2)]) rfl rfl) ?_
          refine gg_nm (fun (x7 : Int32) => [some (.ref (64)), some (.int c1), some (.int x7), some (.int v2)]) (fun _ => []) (fun x7 => ?_)
          exact gg_end rfl
      · refine gg_st (go_iinc 3 d_X0_countPairs_27 rfl (v := v2 + (1 : Int32)) (by rw [ci_1]) (by decide) (L' := [some (.ref (64)), some (.int c1), some (.int t5), some (.int (v2 + (1 : Int32)))]) rfl rfl) ?_
        refine gg_st (go_goto (pc' := 4) d_X0_countPairs_30 (by decide)) ?_
        exact ih t5 (v2 + (1 : Int32))
    · refine gg_st (go_fg [none, none, some (.int v1), none] ⟨rfl, trivial⟩) ?_
      exact gg_end rfl
set_option maxRecDepth 20000 in
theorem k_X0_countPairs (l : Launch) (w : Wo) (F : Nat) (p1 : Int32) (σ : St) : K l w shC m_X0_countPairs 5 [.ref (64), .int p1] σ (f_X0_countPairs F p1 σ) (rI σ) := by
  refine k_of (L := [some (.ref (64)), some (.int p1), none, none]) (plainFor_of_name (by decide +kernel)) 2 rfl (Nat.le_of_ble_eq_true rfl) ?_
  unfold f_X0_countPairs
  refine gg_st (go_iconst d_X0_countPairs_0 ci_0 rfl) ?_
  refine gg_st (go_istore_n 2 d_X0_countPairs_1 rfl (by decide) (L' := [some (.ref (64)), some (.int p1), some (.int (0 : Int32)), none]) rfl rfl) ?_
  refine gg_st (go_iconst d_X0_countPairs_2 ci_0 rfl) ?_
  refine gg_st (go_istore_n 3 d_X0_countPairs_3 rfl (by decide) (L' := [some (.ref (64)), some (.int p1), some (.int (0 : Int32)), some (.int (0 : Int32))]) rfl rfl) ?_
  refine gg_bind 33 (fun (t8 : Int32) => [none, none, some (.int t8), none]) (fun (t8 : Int32) => []) (fun (t8 : Int32) => σ) (g_f_X0_countPairs_L4 l w F p1 σ F (0 : Int32) (0 : Int32)) (fun t8 => ?_)
  refine gg_st (go_iload_n 2 d_X0_countPairs_33 rfl rfl rfl) ?_
  exact gg_iret rfl d_X0_countPairs_34 rfl
def f_X0_greatestAlivePair_L10 (F : Nat) (σ : St) : Nat → Int32 → Option (Int32)
  | 0, _ => none
  | n + 1, v2 =>
    if 0 ≤ v2 then (
      Option.bind (f_X0_isPair v2 (1 : Int32) σ) fun x4 =>
      if x4 = 0 then (
        f_X0_greatestAlivePair_L10 F σ n (v2 + (-1 : Int32)))
      else (
        some v2))
    else (
      some (-1 : Int32))
def f_X0_greatestAlivePair (F : Nat) (σ : St) : Option (Int32) :=
  Option.bind (some ((σ.1 (77) 6) - (1 : Int32))) fun x1 =>
  f_X0_greatestAlivePair_L10 F σ F x1
set_option maxRecDepth 20000 in
theorem g_f_X0_greatestAlivePair_L10 (l : Launch) (w : Wo) (F : Nat) (σ : St) : ∀ (n : Nat) (v2 : Int32), GG l w shC m_X0_greatestAlivePair 5 10 [some (.ref (64)), some (.int v2)] [] σ (f_X0_greatestAlivePair_L10 F σ n v2) (fun q => .inr ((rI σ) q)) := by
  intro n
  induction n with
  | zero =>
    intro v2
    exact gg_none
  | succ n ih =>
    intro v2
    rw [f_X0_greatestAlivePair_L10]
    refine gg_st (go_iload_n 1 d_X0_greatestAlivePair_10 rfl rfl rfl) ?_
    refine gg_br (br_if_lt (tgt := 31) (pc' := 14) d_X0_greatestAlivePair_11 (by decide) rfl) (fun h3 => ?_) (fun h3 => ?_)
    · refine gg_st (go_aload_n 0 d_X0_greatestAlivePair_14 rfl rfl rfl) ?_
      refine gg_st (go_iload_n 1 d_X0_greatestAlivePair_15 rfl rfl rfl) ?_
      refine gg_st (go_iconst d_X0_greatestAlivePair_16 ci_1 rfl) ?_
      refine gv_I (k_X0_isPair l w v2 (1 : Int32) σ) cv_X0_57 sC_64 (Nat.le_of_ble_eq_true rfl) rfl rfl (Nat.le_of_ble_eq_true rfl) d_X0_greatestAlivePair_17 rfl (fun x4 => ?_)
      refine gg_br (br_if_eq (tgt := 25) (pc' := 23) d_X0_greatestAlivePair_20 (by decide) rfl) (fun h5 => ?_) (fun h5 => ?_)
      · refine gg_st (go_iinc 1 d_X0_greatestAlivePair_25 rfl (v := v2 + (-1 : Int32)) (by rw [ci_m1]) (by decide) (L' := [some (.ref (64)), some (.int (v2 + (-1 : Int32)))]) rfl rfl) ?_
        refine gg_st (go_goto (pc' := 10) d_X0_greatestAlivePair_28 (by decide)) ?_
        exact ih (v2 + (-1 : Int32))
      · refine gg_st (go_iload_n 1 d_X0_greatestAlivePair_23 rfl rfl rfl) ?_
        exact gg_iret rfl d_X0_greatestAlivePair_24 rfl
    · refine gg_st (go_iconst d_X0_greatestAlivePair_31 ci_m1 rfl) ?_
      exact gg_iret rfl d_X0_greatestAlivePair_32 rfl
set_option maxRecDepth 20000 in
theorem k_X0_greatestAlivePair (l : Launch) (w : Wo) (F : Nat) (σ : St) : K l w shC m_X0_greatestAlivePair 5 [.ref (64)] σ (f_X0_greatestAlivePair F σ) (rI σ) := by
  refine k_of (L := [some (.ref (64)), none]) (plainFor_of_name (by decide +kernel)) 1 rfl (Nat.le_of_ble_eq_true rfl) ?_
  unfold f_X0_greatestAlivePair
  refine gg_st (go_aload_n 0 d_X0_greatestAlivePair_0 rfl rfl rfl) ?_
  refine gg_st (go_getR (j := 2) cf0 sC_64 rfl (by decide) fl_X0_28 d_X0_greatestAlivePair_1 rfl) ?_
  refine gg_st (go_getI (j := 6) cf4 sC_77 rfl (by decide) fl_X0_54 d_X0_greatestAlivePair_4 rfl) ?_
  refine gg_st (go_iconst d_X0_greatestAlivePair_7 ci_1 rfl) ?_
  refine gg_st (go_isub d_X0_greatestAlivePair_8 rfl) ?_
  refine gg_nm (fun _ => [some (.ref (64)), none]) (fun (x1 : Int32) => [.int x1]) (fun x1 => ?_)
  refine gg_st (go_istore_n 1 d_X0_greatestAlivePair_9 rfl (by decide) (L' := [some (.ref (64)), some (.int x1)]) rfl rfl) ?_
  refine g_f_X0_greatestAlivePair_L10 l w F σ  F x1
def f_X0_listAlivePairs_L4 (F : Nat) : Nat → Int32 → Int32 → St → Option (Int32 × St)
  | 0, _, _, _ => none
  | n + 1, v1, v2, g =>
    if (v2 < (g.1 (77) 6)) ∧ (v1 < (400 : Int32)) then (
      Option.bind (f_X0_isPair v2 (1 : Int32) g) fun x3 =>
      Option.bind (
        if x3 = 0 then (
          some (v1, g))
        else (
          if inb v1 400 then (
            Option.bind (some (seti g (55) (ix v1) v2)) fun s9 =>
            Option.bind (some (v1 + (1 : Int32))) fun x10 =>
            some (x10, s9))
          else none)) fun t4 =>
      f_X0_listAlivePairs_L4 F n t4.1 (v2 + (1 : Int32)) t4.2)
    else (
      some (v1, g))
def f_X0_listAlivePairs (F : Nat) (σ : St) : Option (Int32 × St) :=
  Option.bind (f_X0_listAlivePairs_L4 F F (0 : Int32) (0 : Int32) σ) fun t15 =>
  some (t15.1, t15.2)
set_option maxRecDepth 20000 in
theorem g_f_X0_listAlivePairs_L4 (l : Launch) (w : Wo) (F : Nat) : ∀ (n : Nat) (v1 : Int32) (v2 : Int32) (g : St), GG l w shC m_X0_listAlivePairs 5 4 [some (.ref (64)), some (.ref (55)), some (.int v1), some (.int v2)] [] g (f_X0_listAlivePairs_L4 F n v1 v2 g) (fun (t : Int32 × St) => .inl (43, [none, none, some (.int t.1), none], [], t.2)) := by
  intro n
  induction n with
  | zero =>
    intro v1 v2 g
    exact gg_none
  | succ n ih =>
    intro v1 v2 g
    rw [f_X0_listAlivePairs_L4]
    refine gg_st (go_iload_n 3 d_X0_listAlivePairs_4 rfl rfl rfl) ?_
    refine gg_st (go_aload_n 0 d_X0_listAlivePairs_5 rfl rfl rfl) ?_
    refine gg_st (go_getR (j := 2) cf0 sC_64 rfl (by decide) fl_X0_28 d_X0_listAlivePairs_6 rfl) ?_
    refine gg_st (go_getI (j := 6) cf4 sC_77 rfl (by decide) fl_X0_54 d_X0_listAlivePairs_9 rfl) ?_
    refine gg_two (c := (v2 < (g.1 (77) 6)) ∧ (v1 < (400 : Int32))) (pA := 21) (pB := 43) (LL := [some (.ref (64)), some (.ref (55)), some (.int v1), some (.int v2)]) (ss := []) ?_ ?_ (fun hA11 hB12 => ?_)
    · refine gg_st (go_aload_n 0 d_X0_listAlivePairs_21 rfl rfl rfl) ?_
      refine gg_st (go_iload_n 3 d_X0_listAlivePairs_22 rfl rfl rfl) ?_
      refine gg_st (go_iconst d_X0_listAlivePairs_23 ci_1 rfl) ?_
      refine gv_I (k_X0_isPair l w v2 (1 : Int32) g) cv_X0_57 sC_64 (Nat.le_of_ble_eq_true rfl) rfl rfl (Nat.le_of_ble_eq_true rfl) d_X0_listAlivePairs_24 rfl (fun x3 => ?_)
      refine gg_bind 37 (fun (t4 : Int32 × St) => [some (.ref (64)), some (.ref (55)), some (.int t4.1), some (.int v2)]) (fun (t4 : Int32 × St) => []) (fun (t4 : Int32 × St) => t4.2) ?_ (fun t4 => ?_)
      · refine gg_br (br_if_eq (tgt := 37) (pc' := 30) d_X0_listAlivePairs_27 (by decide) rfl) (fun h7 => ?_) (fun h7 => ?_)
        · exact gg_end rfl
        · refine gg_st (go_aload_n 1 d_X0_listAlivePairs_30 rfl rfl rfl) ?_
          refine gg_st (go_iload_n 2 d_X0_listAlivePairs_31 rfl rfl rfl) ?_
          refine gg_st (go_iload_n 3 d_X0_listAlivePairs_32 rfl rfl rfl) ?_
          refine gg_gd (fun h8 => ?_)
          refine gg_st (go_iast sC_55 h8 d_X0_listAlivePairs_33 rfl) ?_
          refine gg_som (fun s9 => ?_)
          refine gg_st (go_iinc 2 d_X0_listAlivePairs_34 rfl (v := v1 + (1 : Int32)) (by rw [ci_1]) (by decide) (L' := [some (.ref (64)), some (.ref (55)), some (.int (v1 + (1 : Int32))), some (.int v2)]) rfl rfl) ?_
          refine gg_nm (fun (x10 : Int32) => [some (.ref (64)), some (.ref (55)), some (.int x10), some (.int v2)]) (fun _ => []) (fun x10 => ?_)
          exact gg_end rfl
      · refine gg_st (go_iinc 3 d_X0_listAlivePairs_37 rfl (v := v2 + (1 : Int32)) (by rw [ci_1]) (by decide) (L' := [some (.ref (64)), some (.ref (55)), some (.int t4.1), some (.int (v2 + (1 : Int32)))]) rfl rfl) ?_
        refine gg_st (go_goto (pc' := 4) d_X0_listAlivePairs_40 (by decide)) ?_
        exact ih t4.1 (v2 + (1 : Int32)) t4.2
    · refine gg_st (go_fg [none, none, some (.int v1), none] ⟨rfl, trivial⟩) ?_
      exact gg_end rfl
    refine gg_brs (br_icmp_ge (tgt := 43) (pc' := 15) d_X0_listAlivePairs_12 (by decide) rfl) (fun h13 => ?_) (fun h13 => ?_)
    · refine gg_st (go_iload_n 2 d_X0_listAlivePairs_15 rfl rfl rfl) ?_
      refine gg_st (go_aload_n 1 d_X0_listAlivePairs_16 rfl rfl rfl) ?_
      refine gg_st (go_alen sC_55 (v := (400 : Int32)) (by decide) d_X0_listAlivePairs_17 rfl) ?_
      refine gg_brs (br_icmp_ge (tgt := 43) (pc' := 21) d_X0_listAlivePairs_18 (by decide) rfl) (fun h14 => ?_) (fun h14 => ?_)
      · exact gg_eq (if_pos ⟨h13, h14⟩) hA11
      · exact gg_eq (if_neg (fun z => h14 z.2)) hB12
    · exact gg_eq (if_neg (fun z => h13 z.1)) hB12
set_option maxRecDepth 20000 in
theorem k_X0_listAlivePairs (l : Launch) (w : Wo) (F : Nat) (σ : St) : K l w shC m_X0_listAlivePairs 5 [.ref (64), .ref (55)] σ (f_X0_listAlivePairs F σ) (rIS) := by
  refine k_of (L := [some (.ref (64)), some (.ref (55)), none, none]) (plainFor_of_name (by decide +kernel)) 2 rfl (Nat.le_of_ble_eq_true rfl) ?_
  unfold f_X0_listAlivePairs
  refine gg_st (go_iconst d_X0_listAlivePairs_0 ci_0 rfl) ?_
  refine gg_st (go_istore_n 2 d_X0_listAlivePairs_1 rfl (by decide) (L' := [some (.ref (64)), some (.ref (55)), some (.int (0 : Int32)), none]) rfl rfl) ?_
  refine gg_st (go_iconst d_X0_listAlivePairs_2 ci_0 rfl) ?_
  refine gg_st (go_istore_n 3 d_X0_listAlivePairs_3 rfl (by decide) (L' := [some (.ref (64)), some (.ref (55)), some (.int (0 : Int32)), some (.int (0 : Int32))]) rfl rfl) ?_
  refine gg_bind 43 (fun (t15 : Int32 × St) => [none, none, some (.int t15.1), none]) (fun (t15 : Int32 × St) => []) (fun (t15 : Int32 × St) => t15.2) (g_f_X0_listAlivePairs_L4 l w F F (0 : Int32) (0 : Int32) σ) (fun t15 => ?_)
  refine gg_st (go_iload_n 2 d_X0_listAlivePairs_43 rfl rfl rfl) ?_
  exact gg_iret rfl d_X0_listAlivePairs_44 rfl
