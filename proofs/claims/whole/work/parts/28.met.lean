def f_X9_packName_L5 (F : Nat) (c1 : Int32) (c2 : Int32) (σ : St) : Nat → Int64 → Int32 → Option (Int64)
  | 0, _, _ => none
  | n + 1, v1, v2 =>
    if (v2 < c2) ∧ (v2 < (8 : Int32)) then (
      Option.bind (f_X9_byteAt (c1 + v2) σ) fun x3 =>
      Option.bind (some ((v1 <<< ((8 : Int32).toInt64 &&& 63)) ||| (x3.toInt64))) fun x4 =>
      f_X9_packName_L5 F c1 c2 σ n x4 (v2 + (1 : Int32)))
    else (
      some v1)
def f_X9_packName (F : Nat) (p1 : Int32) (p2 : Int32) (σ : St) : Option (Int64) :=
  Option.bind (f_X9_packName_L5 F p1 p2 σ F (0 : Int64) (0 : Int32)) fun t9 =>
  some t9
set_option maxRecDepth 20000 in
theorem g_f_X9_packName_L5 (l : Launch) (w : Wo) (F : Nat) (c1 : Int32) (c2 : Int32) (σ : St) : ∀ (n : Nat) (v1 : Int64) (v2 : Int32), GG l w shC m_X9_packName 3 5 [some (.ref (9)), some (.int c1), some (.int c2), some (.long v1), none, some (.int v2)] [] σ (f_X9_packName_L5 F c1 c2 σ n v1 v2) (fun (t : Int64) => .inl (39, [none, none, none, some (.long t), none, none], [], σ)) := by
  intro n
  induction n with
  | zero =>
    intro v1 v2
    exact gg_none
  | succ n ih =>
    intro v1 v2
    rw [f_X9_packName_L5]
    refine gg_st (go_iload 5 d_X9_packName_5 rfl rfl) ?_
    refine gg_st (go_iload_n 2 d_X9_packName_7 rfl rfl rfl) ?_
    refine gg_two (c := (v2 < c2) ∧ (v2 < (8 : Int32))) (pA := 18) (pB := 39) (LL := [some (.ref (9)), some (.int c1), some (.int c2), some (.long v1), none, some (.int v2)]) (ss := []) ?_ ?_ (fun hA5 hB6 => ?_)
    · refine gg_st (go_lload_n 3 d_X9_packName_18 rfl rfl rfl) ?_
      refine gg_st (go_bipush d_X9_packName_19 cb_8 rfl) ?_
      refine gg_st (go_lshl d_X9_packName_21 rfl) ?_
      refine gg_st (go_aload_n 0 d_X9_packName_22 rfl rfl rfl) ?_
      refine gg_st (go_iload_n 1 d_X9_packName_23 rfl rfl rfl) ?_
      refine gg_st (go_iload 5 d_X9_packName_24 rfl rfl) ?_
      refine gg_st (go_iadd d_X9_packName_26 rfl) ?_
      refine gv_I (k_X9_byteAt l w (c1 + v2) σ) cv_X9_57 sC_9 (Nat.le_of_ble_eq_true rfl) rfl rfl (Nat.le_of_ble_eq_true rfl) d_X9_packName_27 rfl (fun x3 => ?_)
      refine gg_st (go_i2l d_X9_packName_30 rfl) ?_
      refine gg_st (go_lor d_X9_packName_31 rfl) ?_
      refine gg_nm (fun _ => [some (.ref (9)), some (.int c1), some (.int c2), some (.long v1), none, some (.int v2)]) (fun (x4 : Int64) => [.long x4]) (fun x4 => ?_)
      refine gg_st (go_lstore_n 3 d_X9_packName_32 rfl (by decide) (L' := [some (.ref (9)), some (.int c1), some (.int c2), some (.long x4), none, some (.int v2)]) rfl rfl) ?_
      refine gg_st (go_iinc 5 d_X9_packName_33 rfl (v := v2 + (1 : Int32)) (by rw [ci_1]) (by decide) (L' := [some (.ref (9)), some (.int c1), some (.int c2), some (.long x4), none, some (.int (v2 + (1 : Int32)))]) rfl rfl) ?_
      refine gg_st (go_goto (pc' := 5) d_X9_packName_36 (by decide)) ?_
      exact ih x4 (v2 + (1 : Int32))
    · refine gg_st (go_fg [none, none, none, some (.long v1), none, none] ⟨rfl, trivial⟩) ?_
      exact gg_end rfl
    refine gg_brs (br_icmp_ge (tgt := 39) (pc' := 11) d_X9_packName_8 (by decide) rfl) (fun h7 => ?_) (fun h7 => ?_)
    · refine gg_st (go_iload 5 d_X9_packName_11 rfl rfl) ?_
      refine gg_st (go_bipush d_X9_packName_13 cb_8 rfl) ?_
      refine gg_brs (br_icmp_ge (tgt := 39) (pc' := 18) d_X9_packName_15 (by decide) rfl) (fun h8 => ?_) (fun h8 => ?_)
      · exact gg_eq (if_pos ⟨h7, h8⟩) hA5
      · exact gg_eq (if_neg (fun z => h8 z.2)) hB6
    · exact gg_eq (if_neg (fun z => h7 z.1)) hB6
set_option maxRecDepth 20000 in
theorem k_X9_packName (l : Launch) (w : Wo) (F : Nat) (p1 : Int32) (p2 : Int32) (σ : St) : K l w shC m_X9_packName 3 [.ref (9), .int p1, .int p2] σ (f_X9_packName F p1 p2 σ) (rJ σ) := by
  refine k_of (L := [some (.ref (9)), some (.int p1), some (.int p2), none, none, none]) (plainFor_of_name (by decide +kernel)) 3 rfl (Nat.le_of_ble_eq_true rfl) ?_
  unfold f_X9_packName
  refine gg_st (go_lconst d_X9_packName_0 (v := (0 : Int64)) (by decide) rfl) ?_
  refine gg_st (go_lstore_n 3 d_X9_packName_1 rfl (by decide) (L' := [some (.ref (9)), some (.int p1), some (.int p2), some (.long (0 : Int64)), none, none]) rfl rfl) ?_
  refine gg_st (go_iconst d_X9_packName_2 ci_0 rfl) ?_
  refine gg_st (go_istore 5 d_X9_packName_3 (by decide) (L' := [some (.ref (9)), some (.int p1), some (.int p2), some (.long (0 : Int64)), none, some (.int (0 : Int32))]) rfl rfl) ?_
  refine gg_bind 39 (fun (t9 : Int64) => [none, none, none, some (.long t9), none, none]) (fun (t9 : Int64) => []) (fun (t9 : Int64) => σ) (g_f_X9_packName_L5 l w F p1 p2 σ F (0 : Int64) (0 : Int32)) (fun t9 => ?_)
  refine gg_st (go_lload_n 3 d_X9_packName_39 rfl rfl rfl) ?_
  exact gg_lret rfl d_X9_packName_40 rfl
def f_X9_scanAt (F : Nat) (p1 : Int32) (σ : St) : Option (Int32 × St) :=
  Option.bind (f_X9_byteAt p1 σ) fun x1 =>
  Option.bind (f_X9_countRow F p1 σ) fun x2 =>
  if 0 < x2 then (
    Option.bind (f_X9_kindOfRow F p1 x2 σ) fun x4 =>
    Option.bind (f_X9_packName F p1 x2 σ) fun x5 =>
    Option.bind (f_X9_addToken x4 p1 x5 σ) fun s6 =>
    some (x2, s6))
  else (
    Option.bind (some (fun (t7 : St) =>
      if (x1 = (10 : Int32)) ∨ (x1 = (32 : Int32)) then (
        some ((1 : Int32), t7))
      else (
        Option.bind (f_J0_indexOf_0f7a4 F ((x1.toUInt32 % 65536).toInt32) t7) fun x10 =>
        Option.bind (
          if 0 ≤ x10 then (
            some x1)
          else (
            some (0 : Int32))) fun t11 =>
        Option.bind (f_X9_addToken t11 p1 (0 : Int64) t7) fun s13 =>
        some ((1 : Int32), s13)))) fun jp8 =>
    if x1 = (62 : Int32) then (
      Option.bind (f_X9_byteAt (p1 + (1 : Int32)) σ) fun x19 =>
      if x19 = (60 : Int32) then (
        Option.bind (f_X9_addToken (4 : Int32) p1 (0 : Int64) σ) fun s21 =>
        some ((2 : Int32), s21))
      else (
        jp8 σ))
    else (
      jp8 σ))
set_option maxRecDepth 20000 in
theorem k_X9_scanAt (l : Launch) (w : Wo) (hw : w.2.2.2 = true) (F : Nat) (p1 : Int32) (σ : St) : K l w shC m_X9_scanAt 5 [.ref (9), .int p1] σ (f_X9_scanAt F p1 σ) (rIS) := by
  refine k_of (L := [some (.ref (9)), some (.int p1), none, none]) (plainFor_of_name (by decide +kernel)) 2 rfl (Nat.le_of_ble_eq_true rfl) ?_
  unfold f_X9_scanAt
  refine gg_st (go_aload_n 0 d_X9_scanAt_0 rfl rfl rfl) ?_
  refine gg_st (go_iload_n 1 d_X9_scanAt_1 rfl rfl rfl) ?_
  refine gv_I (k_X9_byteAt l w p1 σ) cv_X9_57 sC_9 (Nat.le_of_ble_eq_true rfl) rfl rfl (Nat.le_of_ble_eq_true rfl) d_X9_scanAt_2 rfl (fun x1 => ?_)
  refine gg_st (go_istore_n 2 d_X9_scanAt_5 rfl (by decide) (L' := [some (.ref (9)), some (.int p1), some (.int x1), none]) rfl rfl) ?_
  refine gg_st (go_aload_n 0 d_X9_scanAt_6 rfl rfl rfl) ?_
  refine gg_st (go_iload_n 1 d_X9_scanAt_7 rfl rfl rfl) ?_
  refine gv_I (k_X9_countRow l w F p1 σ) cv_X9_60 sC_9 (Nat.le_of_ble_eq_true rfl) rfl rfl (Nat.le_of_ble_eq_true rfl) d_X9_scanAt_8 rfl (fun x2 => ?_)
  refine gg_st (go_istore_n 3 d_X9_scanAt_11 rfl (by decide) (L' := [some (.ref (9)), some (.int p1), some (.int x1), some (.int x2)]) rfl rfl) ?_
  refine gg_st (go_iload_n 3 d_X9_scanAt_12 rfl rfl rfl) ?_
  refine gg_br (br_if_le (tgt := 35) (pc' := 16) d_X9_scanAt_13 (by decide) rfl) (fun h3 => ?_) (fun h3 => ?_)
  · refine gg_st (go_aload_n 0 d_X9_scanAt_16 rfl rfl rfl) ?_
    refine gg_st (go_aload_n 0 d_X9_scanAt_17 rfl rfl rfl) ?_
    refine gg_st (go_iload_n 1 d_X9_scanAt_18 rfl rfl rfl) ?_
    refine gg_st (go_iload_n 3 d_X9_scanAt_19 rfl rfl rfl) ?_
    refine gv_I (k_X9_kindOfRow l w F p1 x2 σ) cv_X9_63 sC_9 (Nat.le_of_ble_eq_true rfl) rfl rfl (Nat.le_of_ble_eq_true rfl) d_X9_scanAt_20 rfl (fun x4 => ?_)
    refine gg_st (go_iload_n 1 d_X9_scanAt_23 rfl rfl rfl) ?_
    refine gg_st (go_aload_n 0 d_X9_scanAt_24 rfl rfl rfl) ?_
    refine gg_st (go_iload_n 1 d_X9_scanAt_25 rfl rfl rfl) ?_
    refine gg_st (go_iload_n 3 d_X9_scanAt_26 rfl rfl rfl) ?_
    refine gv_J (k_X9_packName l w F p1 x2 σ) cv_X9_66 sC_9 (Nat.le_of_ble_eq_true rfl) rfl rfl (Nat.le_of_ble_eq_true rfl) d_X9_scanAt_27 rfl (fun x5 => ?_)
    refine gv_V (k_X9_addToken l w x4 p1 x5 σ) cv_X9_47 sC_9 (Nat.le_of_ble_eq_true rfl) rfl rfl (Nat.le_of_ble_eq_true rfl) d_X9_scanAt_30 rfl (fun s6 => ?_)
    refine gg_st (go_iload_n 3 d_X9_scanAt_33 rfl rfl rfl) ?_
    exact gg_iret rfl d_X9_scanAt_34 rfl
  · refine gg_st (go_iload_n 2 d_X9_scanAt_35 rfl rfl rfl) ?_
    refine gg_st (go_bipush d_X9_scanAt_36 cb_62 rfl) ?_
    refine gg_jp 62 (fun (t7 : St) => [some (.ref (9)), some (.int p1), some (.int x1), none]) (fun (t7 : St) => []) (fun (t7 : St) => t7) (fun t7 => ?_) (fun jp8 hjp8 => ?_)
    · refine gg_st (go_iload_n 2 d_X9_scanAt_62 rfl rfl rfl) ?_
      refine gg_st (go_bipush d_X9_scanAt_63 cb_10 rfl) ?_
      refine gg_two (c := (x1 = (10 : Int32)) ∨ (x1 = (32 : Int32))) (pA := 95) (pB := 74) (LL := [some (.ref (9)), some (.int p1), some (.int x1), none]) (ss := []) ?_ ?_ (fun hA14 hB15 => ?_)
      · refine gg_st (go_iconst d_X9_scanAt_95 ci_1 rfl) ?_
        exact gg_iret rfl d_X9_scanAt_96 rfl
      · refine gg_st (go_aload_n 0 d_X9_scanAt_74 rfl rfl rfl) ?_
        refine gg_st (go_ldcS hw rfl d_X9_scanAt_75 rfl) ?_
        refine gg_st (go_iload_n 2 d_X9_scanAt_77 rfl rfl rfl) ?_
        refine gg_st (go_i2c d_X9_scanAt_78 rfl) ?_
        refine gt_I hw (k_J0_indexOf_0f7a4 l w hw F ((x1.toUInt32 % 65536).toInt32) t7) ct_X9_72 (Nat.le_of_ble_eq_true rfl) rfl rfl (Nat.le_of_ble_eq_true rfl) d_X9_scanAt_79 rfl (fun x10 => ?_)
        refine gg_bind 90 (fun (t11 : Int32) => [none, some (.int p1), none, none]) (fun (t11 : Int32) => [.int t11, .ref (9)]) (fun (t11 : Int32) => t7) ?_ (fun t11 => ?_)
        · refine gg_br (br_if_lt (tgt := 89) (pc' := 85) d_X9_scanAt_82 (by decide) rfl) (fun h12 => ?_) (fun h12 => ?_)
          · refine gg_st (go_iload_n 2 d_X9_scanAt_85 rfl rfl rfl) ?_
            refine gg_st (go_goto (pc' := 90) d_X9_scanAt_86 (by decide)) ?_
            refine gg_st (go_fg [none, some (.int p1), none, none] ⟨rfl, trivial⟩) ?_
            exact gg_end rfl
          · refine gg_st (go_iconst d_X9_scanAt_89 ci_0 rfl) ?_
            refine gg_st (go_fg [none, some (.int p1), none, none] ⟨rfl, trivial⟩) ?_
            exact gg_end rfl
        · refine gg_st (go_iload_n 1 d_X9_scanAt_90 rfl rfl rfl) ?_
          refine gg_st (go_lconst d_X9_scanAt_91 (v := (0 : Int64)) (by decide) rfl) ?_
          refine gv_V (k_X9_addToken l w t11 p1 (0 : Int64) t7) cv_X9_47 sC_9 (Nat.le_of_ble_eq_true rfl) rfl rfl (Nat.le_of_ble_eq_true rfl) d_X9_scanAt_92 rfl (fun s13 => ?_)
          refine gg_st (go_iconst d_X9_scanAt_95 ci_1 rfl) ?_
          exact gg_iret rfl d_X9_scanAt_96 rfl
      refine gg_brs (br_icmp_eq (tgt := 95) (pc' := 68) d_X9_scanAt_65 (by decide) rfl) (fun h16 => ?_) (fun h16 => ?_)
      · exact gg_eq (if_pos (Or.inl h16)) hA14
      · refine gg_st (go_iload_n 2 d_X9_scanAt_68 rfl rfl rfl) ?_
        refine gg_st (go_bipush d_X9_scanAt_69 cb_32 rfl) ?_
        refine gg_brs (br_icmp_eq (tgt := 95) (pc' := 74) d_X9_scanAt_71 (by decide) rfl) (fun h17 => ?_) (fun h17 => ?_)
        · exact gg_eq (if_pos (Or.inr h17)) hA14
        · exact gg_eq (if_neg (fun z => z.elim h16 h17)) hB15
    refine gg_br (br_icmp_ne (tgt := 62) (pc' := 41) d_X9_scanAt_38 (by decide) rfl) (fun h18 => ?_) (fun h18 => ?_)
    · refine gg_st (go_aload_n 0 d_X9_scanAt_41 rfl rfl rfl) ?_
      refine gg_st (go_iload_n 1 d_X9_scanAt_42 rfl rfl rfl) ?_
      refine gg_st (go_iconst d_X9_scanAt_43 ci_1 rfl) ?_
      refine gg_st (go_iadd d_X9_scanAt_44 rfl) ?_
      refine gv_I (k_X9_byteAt l w (p1 + (1 : Int32)) σ) cv_X9_57 sC_9 (Nat.le_of_ble_eq_true rfl) rfl rfl (Nat.le_of_ble_eq_true rfl) d_X9_scanAt_45 rfl (fun x19 => ?_)
      refine gg_st (go_bipush d_X9_scanAt_48 cb_60 rfl) ?_
      refine gg_br (br_icmp_ne (tgt := 62) (pc' := 53) d_X9_scanAt_50 (by decide) rfl) (fun h20 => ?_) (fun h20 => ?_)
      · refine gg_st (go_aload_n 0 d_X9_scanAt_53 rfl rfl rfl) ?_
        refine gg_st (go_iconst d_X9_scanAt_54 ci_4 rfl) ?_
        refine gg_st (go_iload_n 1 d_X9_scanAt_55 rfl rfl rfl) ?_
        refine gg_st (go_lconst d_X9_scanAt_56 (v := (0 : Int64)) (by decide) rfl) ?_
        refine gv_V (k_X9_addToken l w (4 : Int32) p1 (0 : Int64) σ) cv_X9_47 sC_9 (Nat.le_of_ble_eq_true rfl) rfl rfl (Nat.le_of_ble_eq_true rfl) d_X9_scanAt_57 rfl (fun s21 => ?_)
        refine gg_st (go_iconst d_X9_scanAt_60 ci_2 rfl) ?_
        exact gg_iret rfl d_X9_scanAt_61 rfl
      · refine gg_st (go_fg [some (.ref (9)), some (.int p1), some (.int x1), none] ⟨rfl, ⟨rfl, ⟨rfl, trivial⟩⟩⟩) ?_
        exact hjp8 σ
    · refine gg_st (go_fg [some (.ref (9)), some (.int p1), some (.int x1), none] ⟨rfl, ⟨rfl, ⟨rfl, trivial⟩⟩⟩) ?_
      exact hjp8 σ
def f_X9_scan_L7 (F : Nat) : Nat → Int32 → St → Option (St)
  | 0, _, _ => none
  | n + 1, v2, g =>
    if v2 < (g.1 (9) 6) then (
      Option.bind (f_X9_scanAt F v2 g) fun x4 =>
      Option.bind (some (f_J9_max_7cf53 x4.1 (1 : Int32))) fun x5 =>
      Option.bind (some (v2 + x5)) fun x6 =>
      f_X9_scan_L7 F n x6 x4.2)
    else (
      some g)
def f_X9_scan (F : Nat) (σ : St) : Option (St) :=
  Option.bind (some (seti σ (9) 4 (0 : Int32))) fun s1 =>
  Option.bind (f_X9_scan_L7 F F (0 : Int32) s1) fun t7 =>
  Option.bind (f_X9_addToken (1 : Int32) (t7.1 (9) 6) (0 : Int64) t7) fun s8 =>
  Option.bind (some (seti s8 (9) 5 (-1 : Int32))) fun s9 =>
  Option.bind (f_X9_advance s9) fun s10 =>
  some s10
set_option maxRecDepth 20000 in
theorem g_f_X9_scan_L7 (l : Launch) (w : Wo) (hw : w.2.2.2 = true) (F : Nat) : ∀ (n : Nat) (v2 : Int32) (g : St), GG l w shC m_X9_scan 6 7 [some (.ref (9)), some (.int v2)] [] g (f_X9_scan_L7 F n v2 g) (fun (t : St) => .inl (30, [some (.ref (9)), none], [], t)) := by
  intro n
  induction n with
  | zero =>
    intro v2 g
    exact gg_none
  | succ n ih =>
    intro v2 g
    rw [f_X9_scan_L7]
    refine gg_st (go_iload_n 1 d_X9_scan_7 rfl rfl rfl) ?_
    refine gg_st (go_aload_n 0 d_X9_scan_8 rfl rfl rfl) ?_
    refine gg_st (go_getI (j := 6) cf9 sC_9 rfl (by decide) fl_X9_26 d_X9_scan_9 rfl) ?_
    refine gg_br (br_icmp_ge (tgt := 30) (pc' := 15) d_X9_scan_12 (by decide) rfl) (fun h3 => ?_) (fun h3 => ?_)
    · refine gg_st (go_iload_n 1 d_X9_scan_15 rfl rfl rfl) ?_
      refine gg_st (go_aload_n 0 d_X9_scan_16 rfl rfl rfl) ?_
      refine gg_st (go_iload_n 1 d_X9_scan_17 rfl rfl rfl) ?_
      refine gv_IS (k_X9_scanAt l w hw F v2 g) cv_X9_37 sC_9 (Nat.le_of_ble_eq_true rfl) rfl rfl (Nat.le_of_ble_eq_true rfl) d_X9_scan_18 rfl (fun x4 => ?_)
      refine gg_st (go_iconst d_X9_scan_21 ci_1 rfl) ?_
      refine gs_I (k_J9_max_7cf53 l w x4.1 (1 : Int32) x4.2) cs_X9_41 (Nat.le_of_ble_eq_true rfl) rfl rfl (Nat.le_of_ble_eq_true rfl) d_X9_scan_22 rfl (fun x5 => ?_)
      refine gg_st (go_iadd d_X9_scan_25 rfl) ?_
      refine gg_nm (fun _ => [some (.ref (9)), some (.int v2)]) (fun (x6 : Int32) => [.int x6]) (fun x6 => ?_)
      refine gg_st (go_istore_n 1 d_X9_scan_26 rfl (by decide) (L' := [some (.ref (9)), some (.int x6)]) rfl rfl) ?_
      refine gg_st (go_goto (pc' := 7) d_X9_scan_27 (by decide)) ?_
      exact ih x6 x4.2
    · refine gg_st (go_fg [some (.ref (9)), none] ⟨rfl, trivial⟩) ?_
      exact gg_end rfl
set_option maxRecDepth 20000 in
theorem k_X9_scan (l : Launch) (w : Wo) (hw : w.2.2.2 = true) (F : Nat) (σ : St) : K l w shC m_X9_scan 6 [.ref (9)] σ (f_X9_scan F σ) (rV) := by
  refine k_of (L := [some (.ref (9)), none]) (plainFor_of_name (by decide +kernel)) 1 rfl (Nat.le_of_ble_eq_true rfl) ?_
  unfold f_X9_scan
  refine gg_st (go_aload_n 0 d_X9_scan_0 rfl rfl rfl) ?_
  refine gg_st (go_iconst d_X9_scan_1 ci_0 rfl) ?_
  refine gg_st (go_putI (j := 4) cf9 sC_9 rfl (by decide) rfl rfl fl_X9_34 d_X9_scan_2 rfl) ?_
  refine gg_som (fun s1 => ?_)
  refine gg_st (go_iconst d_X9_scan_5 ci_0 rfl) ?_
  refine gg_st (go_istore_n 1 d_X9_scan_6 rfl (by decide) (L' := [some (.ref (9)), some (.int (0 : Int32))]) rfl rfl) ?_
  refine gg_bind 30 (fun (t7 : St) => [some (.ref (9)), none]) (fun (t7 : St) => []) (fun (t7 : St) => t7) (g_f_X9_scan_L7 l w hw F F (0 : Int32) s1) (fun t7 => ?_)
  refine gg_st (go_aload_n 0 d_X9_scan_30 rfl rfl rfl) ?_
  refine gg_st (go_iconst d_X9_scan_31 ci_1 rfl) ?_
  refine gg_st (go_aload_n 0 d_X9_scan_32 rfl rfl rfl) ?_
  refine gg_st (go_getI (j := 6) cf9 sC_9 rfl (by decide) fl_X9_26 d_X9_scan_33 rfl) ?_
  refine gg_st (go_lconst d_X9_scan_36 (v := (0 : Int64)) (by decide) rfl) ?_
  refine gv_V (k_X9_addToken l w (1 : Int32) (t7.1 (9) 6) (0 : Int64) t7) cv_X9_47 sC_9 (Nat.le_of_ble_eq_true rfl) rfl rfl (Nat.le_of_ble_eq_true rfl) d_X9_scan_37 rfl (fun s8 => ?_)
  refine gg_st (go_aload_n 0 d_X9_scan_40 rfl rfl rfl) ?_
  refine gg_st (go_iconst d_X9_scan_41 ci_m1 rfl) ?_
  refine gg_st (go_putI (j := 5) cf9 sC_9 rfl (by decide) rfl rfl fl_X9_51 d_X9_scan_42 rfl) ?_
  refine gg_som (fun s9 => ?_)
  refine gg_st (go_aload_n 0 d_X9_scan_45 rfl rfl rfl) ?_
  refine gv_V (k_X9_advance l w  s9) cv_X9_54 sC_9 (Nat.le_of_ble_eq_true rfl) rfl rfl (Nat.le_of_ble_eq_true rfl) d_X9_scan_46 rfl (fun s10 => ?_)
  exact gg_vret rfl d_X9_scan_49 rfl
def f_X6_readText_L31 (F : Nat) : Nat → Int32 → St → Option (St)
  | 0, _, _ => none
  | n + 1, v6, g =>
    if (v6 < (4000 : Int32)) ∧ (((g.1 (1) 4) = 0) ∧ (¬ ((g.1 (9) 7) = (1 : Int32)))) then (
      Option.bind (some (f_X6_isWord (1802071652 : Int64) g)) fun x7 =>
      Option.bind (
        if x7 = 0 then (
          Option.bind (some (f_X6_isWord (1920298085 : Int64) g)) fun x10 =>
          if x10 = 0 then (
            Option.bind (some (f_X6_isWord (7234932 : Int64) g)) fun x12 =>
            if x12 = 0 then (
              Option.bind (f_X6_refuseToken g) fun s14 =>
              some s14)
            else (
              Option.bind (f_X6_readNet F g) fun s15 =>
              some s15))
          else (
            Option.bind (f_X6_readRule F g) fun s16 =>
            some s16))
        else (
          Option.bind (f_X6_readKind F g) fun s17 =>
          some s17)) fun t8 =>
      f_X6_readText_L31 F n (v6 + (1 : Int32)) t8)
    else (
      some g)
def f_X6_readText (F : Nat) (σ : St) : Option (Int32 × St) :=
  Option.bind (f_X0_clear F σ) fun s1 =>
  Option.bind (some (seti s1 (1) 3 (0 : Int32))) fun s2 =>
  Option.bind (some (seti s2 (1) 4 (0 : Int32))) fun s3 =>
  Option.bind (some (seti s3 (1) 7 (-1 : Int32))) fun s4 =>
  Option.bind (f_X9_scan F s4) fun s5 =>
  Option.bind (f_X6_readText_L31 F F (0 : Int32) s5) fun t23 =>
  Option.bind (some (seti t23 (9) 6 (0 : Int32))) fun s24 =>
  some (s24.1 (1) 4, s24)
set_option maxRecDepth 20000 in
theorem g_f_X6_readText_L31 (l : Launch) (w : Wo) (hw : w.2.2.2 = true) (F : Nat) : ∀ (n : Nat) (v6 : Int32) (g : St), GG l w shC m_X6_readText 88 31 [some (.ref (1)), some (.int v6)] [] g (f_X6_readText_L31 F n v6 g) (fun (t : St) => .inl (117, [some (.ref (1)), none], [], t)) := by
  intro n
  induction n with
  | zero =>
    intro v6 g
    exact gg_none
  | succ n ih =>
    intro v6 g
    rw [f_X6_readText_L31]
    refine gg_st (go_iload_n 1 d_X6_readText_31 rfl rfl rfl) ?_
    refine gg_st (go_sipush d_X6_readText_32 cs_4000 rfl) ?_
    refine gg_two (c := (v6 < (4000 : Int32)) ∧ (((g.1 (1) 4) = 0) ∧ (¬ ((g.1 (9) 7) = (1 : Int32))))) (pA := 56) (pB := 117) (LL := [some (.ref (1)), some (.int v6)]) (ss := []) ?_ ?_ (fun hA18 hB19 => ?_)
    · refine gg_st (go_aload_n 0 d_X6_readText_56 rfl rfl rfl) ?_
      refine gg_st (go_ldc2 ll_X6_56 d_X6_readText_57 rfl) ?_
      refine gv_I (k_X6_isWord l w (1802071652 : Int64) g) cv_X6_58 sC_1 (Nat.le_of_ble_eq_true rfl) rfl rfl (Nat.le_of_ble_eq_true rfl) d_X6_readText_60 rfl (fun x7 => ?_)
      refine gg_bind 111 (fun (t8 : St) => [some (.ref (1)), some (.int v6)]) (fun (t8 : St) => []) (fun (t8 : St) => t8) ?_ (fun t8 => ?_)
      · refine gg_br (br_if_eq (tgt := 73) (pc' := 66) d_X6_readText_63 (by decide) rfl) (fun h9 => ?_) (fun h9 => ?_)
        · refine gg_st (go_aload_n 0 d_X6_readText_73 rfl rfl rfl) ?_
          refine gg_st (go_ldc2 ll_X6_65 d_X6_readText_74 rfl) ?_
          refine gv_I (k_X6_isWord l w (1920298085 : Int64) g) cv_X6_58 sC_1 (Nat.le_of_ble_eq_true rfl) rfl rfl (Nat.le_of_ble_eq_true rfl) d_X6_readText_77 rfl (fun x10 => ?_)
          refine gg_br (br_if_eq (tgt := 90) (pc' := 83) d_X6_readText_80 (by decide) rfl) (fun h11 => ?_) (fun h11 => ?_)
          · refine gg_st (go_aload_n 0 d_X6_readText_90 rfl rfl rfl) ?_
            refine gg_st (go_ldc2 ll_X6_70 d_X6_readText_91 rfl) ?_
            refine gv_I (k_X6_isWord l w (7234932 : Int64) g) cv_X6_58 sC_1 (Nat.le_of_ble_eq_true rfl) rfl rfl (Nat.le_of_ble_eq_true rfl) d_X6_readText_94 rfl (fun x12 => ?_)
            refine gg_br (br_if_eq (tgt := 107) (pc' := 100) d_X6_readText_97 (by decide) rfl) (fun h13 => ?_) (fun h13 => ?_)
            · refine gg_st (go_aload_n 0 d_X6_readText_107 rfl rfl rfl) ?_
              refine gv_V (k_X6_refuseToken l w  g) cv_X6_75 sC_1 (Nat.le_of_ble_eq_true rfl) rfl rfl (Nat.le_of_ble_eq_true rfl) d_X6_readText_108 rfl (fun s14 => ?_)
              exact gg_end rfl
            · refine gg_st (go_aload_n 0 d_X6_readText_100 rfl rfl rfl) ?_
              refine gv_V (k_X6_readNet l w F  g) cv_X6_72 sC_1 (Nat.le_of_ble_eq_true rfl) rfl rfl (Nat.le_of_ble_eq_true rfl) d_X6_readText_101 rfl (fun s15 => ?_)
              refine gg_st (go_goto (pc' := 111) d_X6_readText_104 (by decide)) ?_
              exact gg_end rfl
          · refine gg_st (go_aload_n 0 d_X6_readText_83 rfl rfl rfl) ?_
            refine gv_V (k_X6_readRule l w F  g) cv_X6_67 sC_1 (Nat.le_of_ble_eq_true rfl) rfl rfl (Nat.le_of_ble_eq_true rfl) d_X6_readText_84 rfl (fun s16 => ?_)
            refine gg_st (go_goto (pc' := 111) d_X6_readText_87 (by decide)) ?_
            exact gg_end rfl
        · refine gg_st (go_aload_n 0 d_X6_readText_66 rfl rfl rfl) ?_
          refine gv_V (k_X6_readKind l w F  g) cv_X6_62 sC_1 (Nat.le_of_ble_eq_true rfl) rfl rfl (Nat.le_of_ble_eq_true rfl) d_X6_readText_67 rfl (fun s17 => ?_)
          refine gg_st (go_goto (pc' := 111) d_X6_readText_70 (by decide)) ?_
          exact gg_end rfl
      · refine gg_st (go_iinc 1 d_X6_readText_111 rfl (v := v6 + (1 : Int32)) (by rw [ci_1]) (by decide) (L' := [some (.ref (1)), some (.int (v6 + (1 : Int32)))]) rfl rfl) ?_
        refine gg_st (go_goto (pc' := 31) d_X6_readText_114 (by decide)) ?_
        exact ih (v6 + (1 : Int32)) t8
    · refine gg_st (go_fg [some (.ref (1)), none] ⟨rfl, trivial⟩) ?_
      exact gg_end rfl
    refine gg_brs (br_icmp_ge (tgt := 117) (pc' := 38) d_X6_readText_35 (by decide) rfl) (fun h20 => ?_) (fun h20 => ?_)
    · refine gg_st (go_aload_n 0 d_X6_readText_38 rfl rfl rfl) ?_
      refine gg_st (go_getI (j := 4) cf6 sC_1 rfl (by decide) fl_X6_47 d_X6_readText_39 rfl) ?_
      refine gg_brs (br_if_ne (tgt := 117) (pc' := 45) d_X6_readText_42 (by decide) rfl) (fun h21 => ?_) (fun h21 => ?_)
      · refine gg_st (go_aload_n 0 d_X6_readText_45 rfl rfl rfl) ?_
        refine gg_st (go_getR (j := 5) cf6 sC_1 rfl (by decide) fl_X6_25 d_X6_readText_46 rfl) ?_
        refine gg_st (go_getI (j := 7) cf9 sC_9 rfl (by decide) fl_X6_53 d_X6_readText_49 rfl) ?_
        refine gg_st (go_iconst d_X6_readText_52 ci_1 rfl) ?_
        refine gg_brs (br_icmp_eq (tgt := 117) (pc' := 56) d_X6_readText_53 (by decide) rfl) (fun h22 => ?_) (fun h22 => ?_)
        · exact gg_eq (if_neg (fun z => (fun z => (fun z => z h22) z.2) z.2)) hB19
        · exact gg_eq (if_pos ⟨h20, ⟨h21, h22⟩⟩) hA18
      · exact gg_eq (if_neg (fun z => (fun z => h21 z.1) z.2)) hB19
    · exact gg_eq (if_neg (fun z => h20 z.1)) hB19
set_option maxRecDepth 20000 in
theorem k_X6_readText (l : Launch) (w : Wo) (hw : w.2.2.2 = true) (F : Nat) (σ : St) : K l w shC m_X6_readText 88 [.ref (1)] σ (f_X6_readText F σ) (rIS) := by
  refine k_of (L := [some (.ref (1)), none]) (plainFor_of_name (by decide +kernel)) 1 rfl (Nat.le_of_ble_eq_true rfl) ?_
  unfold f_X6_readText
  refine gg_st (go_aload_n 0 d_X6_readText_0 rfl rfl rfl) ?_
  refine gg_st (go_getR (j := 6) cf6 sC_1 rfl (by decide) fl_X6_32 d_X6_readText_1 rfl) ?_
  refine gv_V (k_X0_clear l w F  σ) cv_X6_40 sC_14 (Nat.le_of_ble_eq_true rfl) rfl rfl (Nat.le_of_ble_eq_true rfl) d_X6_readText_4 rfl (fun s1 => ?_)
  refine gg_st (go_aload_n 0 d_X6_readText_7 rfl rfl rfl) ?_
  refine gg_st (go_iconst d_X6_readText_8 ci_0 rfl) ?_
  refine gg_st (go_putZ (Or.inl rfl) (j := 3) cf6 sC_1 rfl (by decide) rfl rfl fl_X6_43 d_X6_readText_9 rfl) ?_
  refine gg_som (fun s2 => ?_)
  refine gg_st (go_aload_n 0 d_X6_readText_12 rfl rfl rfl) ?_
  refine gg_st (go_iconst d_X6_readText_13 ci_0 rfl) ?_
  refine gg_st (go_putI (j := 4) cf6 sC_1 rfl (by decide) rfl rfl fl_X6_47 d_X6_readText_14 rfl) ?_
  refine gg_som (fun s3 => ?_)
  refine gg_st (go_aload_n 0 d_X6_readText_17 rfl rfl rfl) ?_
  refine gg_st (go_iconst d_X6_readText_18 ci_m1 rfl) ?_
  refine gg_st (go_putI (j := 7) cf6 sC_1 rfl (by decide) rfl rfl fl_X6_36 d_X6_readText_19 rfl) ?_
  refine gg_som (fun s4 => ?_)
  refine gg_st (go_aload_n 0 d_X6_readText_22 rfl rfl rfl) ?_
  refine gg_st (go_getR (j := 5) cf6 sC_1 rfl (by decide) fl_X6_25 d_X6_readText_23 rfl) ?_
  refine gv_V (k_X9_scan l w hw F  s4) cv_X6_50 sC_9 (Nat.le_of_ble_eq_true rfl) rfl rfl (Nat.le_of_ble_eq_true rfl) d_X6_readText_26 rfl (fun s5 => ?_)
  refine gg_st (go_iconst d_X6_readText_29 ci_0 rfl) ?_
  refine gg_st (go_istore_n 1 d_X6_readText_30 rfl (by decide) (L' := [some (.ref (1)), some (.int (0 : Int32))]) rfl rfl) ?_
  refine gg_bind 117 (fun (t23 : St) => [some (.ref (1)), none]) (fun (t23 : St) => []) (fun (t23 : St) => t23) (g_f_X6_readText_L31 l w hw F F (0 : Int32) s5) (fun t23 => ?_)
  refine gg_st (go_aload_n 0 d_X6_readText_117 rfl rfl rfl) ?_
  refine gg_st (go_getR (j := 5) cf6 sC_1 rfl (by decide) fl_X6_25 d_X6_readText_118 rfl) ?_
  refine gg_st (go_iconst d_X6_readText_121 ci_0 rfl) ?_
  refine gg_st (go_putI (j := 6) cf9 sC_9 rfl (by decide) rfl rfl fl_X6_78 d_X6_readText_122 rfl) ?_
  refine gg_som (fun s24 => ?_)
  refine gg_st (go_aload_n 0 d_X6_readText_125 rfl rfl rfl) ?_
  refine gg_st (go_getI (j := 4) cf6 sC_1 rfl (by decide) fl_X6_47 d_X6_readText_126 rfl) ?_
  exact gg_iret rfl d_X6_readText_129 rfl
def f_X8_agentsIn (p1 : Int32) (σ : St) : Option (Int32) :=
  Option.bind (some (f_X8_has (69) p1 σ)) fun x1 =>
  if x1 = 0 then (
    some (0 : Int32))
  else (
    if inb p1 60 then (
      some (σ.1 (72) (ix p1)))
    else none)
set_option maxRecDepth 20000 in
theorem k_X8_agentsIn (l : Launch) (w : Wo) (p1 : Int32) (σ : St) : K l w shC m_X8_agentsIn 2 [.ref (69), .int p1] σ (f_X8_agentsIn p1 σ) (rI σ) := by
  refine k_of (L := [some (.ref (69)), some (.int p1)]) (plainFor_of_name (by decide +kernel)) 0 rfl (Nat.le_of_ble_eq_true rfl) ?_
  unfold f_X8_agentsIn
  refine gg_st (go_aload_n 0 d_X8_agentsIn_0 rfl rfl rfl) ?_
  refine gg_st (go_iload_n 1 d_X8_agentsIn_1 rfl rfl rfl) ?_
  refine gv_I (k_X8_has l w (show 69 ∈ st19_69 by decide) p1 σ) cv_X8_51 sC_69 (Nat.le_of_ble_eq_true rfl) rfl rfl (Nat.le_of_ble_eq_true rfl) d_X8_agentsIn_2 rfl (fun x1 => ?_)
  refine gg_br (br_if_eq (tgt := 17) (pc' := 8) d_X8_agentsIn_5 (by decide) rfl) (fun h3 => ?_) (fun h3 => ?_)
  · refine gg_st (go_iconst d_X8_agentsIn_17 ci_0 rfl) ?_
    exact gg_iret rfl d_X8_agentsIn_18 rfl
  · refine gg_st (go_aload_n 0 d_X8_agentsIn_8 rfl rfl rfl) ?_
    refine gg_st (go_getR (j := 2) cf8 sC_69 rfl (by decide) fl_X8_18 d_X8_agentsIn_9 rfl) ?_
    refine gg_st (go_iload_n 1 d_X8_agentsIn_12 rfl rfl rfl) ?_
    refine gg_gd (fun h4 => ?_)
    refine gg_st (go_iald sC_72 h4 d_X8_agentsIn_13 rfl) ?_
    refine gg_st (go_goto (pc' := 18) d_X8_agentsIn_14 (by decide)) ?_
    exact gg_iret rfl d_X8_agentsIn_18 rfl
def f_X11_rule (p1 : Int32) (p2 : Int32) (σ : St) : Option (Int32) :=
  Option.bind (some (f_X3_has (65) p1 σ)) fun x1 =>
  if (x1 = 0) ∨ ((f_X3_has (65) p2 σ) = 0) then (
    some (-1001 : Int32))
  else (
    Option.bind (f_X8_ruleFor (69) p1 p2 σ) fun x2 =>
    if x2 = (-1 : Int32) then (
      some (-1 : Int32))
    else (
      Option.bind (f_X8_agentsIn x2 σ) fun x4 =>
      some x4))
set_option maxRecDepth 20000 in
theorem k_X11_rule (l : Launch) (w : Wo) (p1 : Int32) (p2 : Int32) (σ : St) : K l w shC m_X11_rule 3 [.ref (0), .int p1, .int p2] σ (f_X11_rule p1 p2 σ) (rI σ) := by
  refine k_of (L := [some (.ref (0)), some (.int p1), some (.int p2), none]) (plainFor_of_name (by decide +kernel)) 1 rfl (Nat.le_of_ble_eq_true rfl) ?_
  unfold f_X11_rule
  refine gg_st (go_aload_n 0 d_X11_rule_0 rfl rfl rfl) ?_
  refine gg_st (go_getR (j := 8) cf11 sC_0 rfl (by decide) fl_X11_61 d_X11_rule_1 rfl) ?_
  refine gg_st (go_getR (j := 0) cf0 sC_64 rfl (by decide) fl_X11_108 d_X11_rule_4 rfl) ?_
  refine gg_st (go_iload_n 1 d_X11_rule_7 rfl rfl rfl) ?_
  refine gv_I (k_X3_has l w (show 65 ∈ st15_65 by decide) p1 σ) cv_X11_150 sC_65 (Nat.le_of_ble_eq_true rfl) rfl rfl (Nat.le_of_ble_eq_true rfl) d_X11_rule_8 rfl (fun x1 => ?_)
  refine gg_two (c := (x1 = 0) ∨ ((f_X3_has (65) p2 σ) = 0)) (pA := 28) (pB := 32) (LL := [some (.ref (0)), some (.int p1), some (.int p2), none]) (ss := []) ?_ ?_ (fun hA5 hB6 => ?_)
  · refine gg_st (go_sipush d_X11_rule_28 cs_m1001 rfl) ?_
    exact gg_iret rfl d_X11_rule_31 rfl
  · refine gg_st (go_aload_n 0 d_X11_rule_32 rfl rfl rfl) ?_
    refine gg_st (go_getR (j := 8) cf11 sC_0 rfl (by decide) fl_X11_61 d_X11_rule_33 rfl) ?_
    refine gg_st (go_getR (j := 1) cf0 sC_64 rfl (by decide) fl_X11_115 d_X11_rule_36 rfl) ?_
    refine gg_st (go_iload_n 1 d_X11_rule_39 rfl rfl rfl) ?_
    refine gg_st (go_iload_n 2 d_X11_rule_40 rfl rfl rfl) ?_
    refine gv_I (k_X8_ruleFor l w (show 69 ∈ st19_69 by decide) p1 p2 σ) cv_X11_168 sC_69 (Nat.le_of_ble_eq_true rfl) rfl rfl (Nat.le_of_ble_eq_true rfl) d_X11_rule_41 rfl (fun x2 => ?_)
    refine gg_st (go_istore_n 3 d_X11_rule_44 rfl (by decide) (L' := [some (.ref (0)), some (.int p1), some (.int p2), some (.int x2)]) rfl rfl) ?_
    refine gg_st (go_iload_n 3 d_X11_rule_45 rfl rfl rfl) ?_
    refine gg_st (go_iconst d_X11_rule_46 ci_m1 rfl) ?_
    refine gg_br (br_icmp_ne (tgt := 54) (pc' := 50) d_X11_rule_47 (by decide) rfl) (fun h3 => ?_) (fun h3 => ?_)
    · refine gg_st (go_iconst d_X11_rule_50 ci_m1 rfl) ?_
      refine gg_st (go_goto (pc' := 65) d_X11_rule_51 (by decide)) ?_
      exact gg_iret rfl d_X11_rule_65 rfl
    · refine gg_st (go_aload_n 0 d_X11_rule_54 rfl rfl rfl) ?_
      refine gg_st (go_getR (j := 8) cf11 sC_0 rfl (by decide) fl_X11_61 d_X11_rule_55 rfl) ?_
      refine gg_st (go_getR (j := 1) cf0 sC_64 rfl (by decide) fl_X11_115 d_X11_rule_58 rfl) ?_
      refine gg_st (go_iload_n 3 d_X11_rule_61 rfl rfl rfl) ?_
      refine gv_I (k_X8_agentsIn l w x2 σ) cv_X11_171 sC_69 (Nat.le_of_ble_eq_true rfl) rfl rfl (Nat.le_of_ble_eq_true rfl) d_X11_rule_62 rfl (fun x4 => ?_)
      exact gg_iret rfl d_X11_rule_65 rfl
  refine gg_brs (br_if_eq (tgt := 28) (pc' := 14) d_X11_rule_11 (by decide) rfl) (fun h7 => ?_) (fun h7 => ?_)
  · exact gg_eq (if_pos (Or.inl h7)) hA5
  · refine gg_st (go_aload_n 0 d_X11_rule_14 rfl rfl rfl) ?_
    refine gg_st (go_getR (j := 8) cf11 sC_0 rfl (by decide) fl_X11_61 d_X11_rule_15 rfl) ?_
    refine gg_st (go_getR (j := 0) cf0 sC_64 rfl (by decide) fl_X11_108 d_X11_rule_18 rfl) ?_
    refine gg_st (go_iload_n 2 d_X11_rule_21 rfl rfl rfl) ?_
    refine gg_st (go_vI (k_X3_has l w (show 65 ∈ st15_65 by decide) p2 σ) cv_X11_150 sC_65 (Nat.le_of_ble_eq_true rfl) rfl rfl (Nat.le_of_ble_eq_true rfl) d_X11_rule_22 rfl) ?_
    refine gg_brs (br_if_ne (tgt := 32) (pc' := 28) d_X11_rule_25 (by decide) rfl) (fun h8 => ?_) (fun h8 => ?_)
    · exact gg_eq (if_pos (Or.inr h8)) hA5
    · exact gg_eq (if_neg (fun z => z.elim h7 h8)) hB6
def f_X2_noteAgents (p1 : Int32) (σ : St) : Option (St) :=
  Option.bind (some (f_J9_max_7cf53 (σ.1 (36) 2) p1)) fun x1 =>
  Option.bind (some (seti σ (36) 2 x1)) fun s2 =>
  some s2
set_option maxRecDepth 20000 in
theorem k_X2_noteAgents (l : Launch) (w : Wo) (p1 : Int32) (σ : St) : K l w shC m_X2_noteAgents 2 [.ref (36), .int p1] σ (f_X2_noteAgents p1 σ) (rV) := by
  refine k_of (L := [some (.ref (36)), some (.int p1)]) (plainFor_of_name (by decide +kernel)) 0 rfl (Nat.le_of_ble_eq_true rfl) ?_
  unfold f_X2_noteAgents
  refine gg_st (go_aload_n 0 d_X2_noteAgents_0 rfl rfl rfl) ?_
  refine gg_st (go_aload_n 0 d_X2_noteAgents_1 rfl rfl rfl) ?_
  refine gg_st (go_getI (j := 2) cf2 sC_36 rfl (by decide) fl_X2_19 d_X2_noteAgents_2 rfl) ?_
  refine gg_st (go_iload_n 1 d_X2_noteAgents_5 rfl rfl rfl) ?_
  refine gs_I (k_J9_max_7cf53 l w (σ.1 (36) 2) p1 σ) cs_X2_31 (Nat.le_of_ble_eq_true rfl) rfl rfl (Nat.le_of_ble_eq_true rfl) d_X2_noteAgents_6 rfl (fun x1 => ?_)
  refine gg_st (go_putI (j := 2) cf2 sC_36 rfl (by decide) rfl rfl fl_X2_19 d_X2_noteAgents_9 rfl) ?_
  refine gg_som (fun s2 => ?_)
  exact gg_vret rfl d_X2_noteAgents_12 rfl
def f_X2_noteStep (p1 : Int32) (p2 : Int32) (σ : St) : Option (St) :=
  Option.bind (f_J9_floorMod_7cf53 (σ.1 (36) 1) (50 : Int32)) fun x1 =>
  if inb x1 50 then (
    Option.bind (some (seti σ (37) (ix x1) (((16 : Int32) * p1) + p2))) fun s3 =>
    Option.bind (some (seti s3 (36) 1 ((s3.1 (36) 1) + (1 : Int32)))) fun s4 =>
    some s4)
  else none
set_option maxRecDepth 20000 in
theorem k_X2_noteStep (l : Launch) (w : Wo) (p1 : Int32) (p2 : Int32) (σ : St) : K l w shC m_X2_noteStep 2 [.ref (36), .int p1, .int p2] σ (f_X2_noteStep p1 p2 σ) (rV) := by
  refine k_of (L := [some (.ref (36)), some (.int p1), some (.int p2)]) (plainFor_of_name (by decide +kernel)) 0 rfl (Nat.le_of_ble_eq_true rfl) ?_
  unfold f_X2_noteStep
  refine gg_st (go_aload_n 0 d_X2_noteStep_0 rfl rfl rfl) ?_
  refine gg_st (go_getR (j := 0) cf2 sC_36 rfl (by decide) fl_X2_11 d_X2_noteStep_1 rfl) ?_
  refine gg_st (go_aload_n 0 d_X2_noteStep_4 rfl rfl rfl) ?_
  refine gg_st (go_getI (j := 1) cf2 sC_36 rfl (by decide) fl_X2_15 d_X2_noteStep_5 rfl) ?_
  refine gg_st (go_bipush d_X2_noteStep_8 cb_50 rfl) ?_
  refine gs_I (k_J9_floorMod_7cf53 l w (σ.1 (36) 1) (50 : Int32) σ) cs_X2_25 (Nat.le_of_ble_eq_true rfl) rfl rfl (Nat.le_of_ble_eq_true rfl) d_X2_noteStep_10 rfl (fun x1 => ?_)
  refine gg_st (go_bipush d_X2_noteStep_13 cb_16 rfl) ?_
  refine gg_st (go_iload_n 1 d_X2_noteStep_15 rfl rfl rfl) ?_
  refine gg_st (go_imul d_X2_noteStep_16 rfl) ?_
  refine gg_st (go_iload_n 2 d_X2_noteStep_17 rfl rfl rfl) ?_
  refine gg_st (go_iadd d_X2_noteStep_18 rfl) ?_
  refine gg_gd (fun h2 => ?_)
  refine gg_st (go_iast sC_37 h2 d_X2_noteStep_19 rfl) ?_
  refine gg_som (fun s3 => ?_)
  refine gg_st (go_aload_n 0 d_X2_noteStep_20 rfl rfl rfl) ?_
  refine gg_st (go_dup d_X2_noteStep_21 rfl rfl) ?_
  refine gg_st (go_getI (j := 1) cf2 sC_36 rfl (by decide) fl_X2_15 d_X2_noteStep_22 rfl) ?_
  refine gg_st (go_iconst d_X2_noteStep_25 ci_1 rfl) ?_
  refine gg_st (go_iadd d_X2_noteStep_26 rfl) ?_
  refine gg_st (go_putI (j := 1) cf2 sC_36 rfl (by decide) rfl rfl fl_X2_15 d_X2_noteStep_27 rfl) ?_
  refine gg_som (fun s4 => ?_)
  exact gg_vret rfl d_X2_noteStep_30 rfl
def f_X4_remove_L36 (F : Nat) : Nat → Int32 → St → Option (St)
  | 0, _, _ => none
  | n + 1, v10, g =>
    if 0 < v10 then (
      if inb (v10 - (1 : Int32)) 400 then (
        if (g.1 (78) (ix (v10 - (1 : Int32)))) = (-1 : Int32) then (
          Option.bind (some (seti g (77) 6 (v10 - (1 : Int32)))) fun s16 =>
          f_X4_remove_L36 F n (v10 + (-1 : Int32)) s16)
        else (
          some g))
      else none)
    else (
      some g)
def f_X4_remove (F : Nat) (p1 : Int32) (σ : St) : Option (St) :=
  Option.bind (f_X4_has p1 σ) fun x1 =>
  Option.bind (
    if x1 = 0 then (
      some σ)
    else (
      if inb p1 400 then (
        Option.bind (some (seti σ (78) (ix p1) (-1 : Int32))) fun s7 =>
        Option.bind (some (seti s7 (77) 3 ((s7.1 (77) 3) - (1 : Int32)))) fun s8 =>
        some s8)
      else none)) fun t2 =>
  Option.bind (some (f_J9_min_7cf53 (t2.1 (77) 6) (400 : Int32))) fun x9 =>
  Option.bind (f_X4_remove_L36 F F x9 t2) fun t17 =>
  some t17
set_option maxRecDepth 20000 in
theorem g_f_X4_remove_L36 (l : Launch) (w : Wo) (F : Nat) : ∀ (n : Nat) (v10 : Int32) (g : St), GG l w shC m_X4_remove 2 36 [some (.ref (77)), none, some (.int v10)] [] g (f_X4_remove_L36 F n v10 g) (fun (t : St) => .inl (65, [none, none, none], [], t)) := by
  intro n
  induction n with
  | zero =>
    intro v10 g
    exact gg_none
  | succ n ih =>
    intro v10 g
    rw [f_X4_remove_L36]
    refine gg_st (go_iload_n 2 d_X4_remove_36 rfl rfl rfl) ?_
    refine gg_br (br_if_le (tgt := 65) (pc' := 40) d_X4_remove_37 (by decide) rfl) (fun h12 => ?_) (fun h12 => ?_)
    · refine gg_st (go_aload_n 0 d_X4_remove_40 rfl rfl rfl) ?_
      refine gg_st (go_getR (j := 0) cf4 sC_77 rfl (by decide) fl_X4_9 d_X4_remove_41 rfl) ?_
      refine gg_st (go_iload_n 2 d_X4_remove_44 rfl rfl rfl) ?_
      refine gg_st (go_iconst d_X4_remove_45 ci_1 rfl) ?_
      refine gg_st (go_isub d_X4_remove_46 rfl) ?_
      refine gg_gd (fun h13 => ?_)
      refine gg_st (go_iald sC_78 h13 d_X4_remove_47 rfl) ?_
      refine gg_st (go_iconst d_X4_remove_48 ci_m1 rfl) ?_
      refine gg_br (br_icmp_ne (tgt := 65) (pc' := 52) d_X4_remove_49 (by decide) rfl) (fun h15 => ?_) (fun h15 => ?_)
      · refine gg_st (go_aload_n 0 d_X4_remove_52 rfl rfl rfl) ?_
        refine gg_st (go_iload_n 2 d_X4_remove_53 rfl rfl rfl) ?_
        refine gg_st (go_iconst d_X4_remove_54 ci_1 rfl) ?_
        refine gg_st (go_isub d_X4_remove_55 rfl) ?_
        refine gg_st (go_putI (j := 6) cf4 sC_77 rfl (by decide) rfl rfl fl_X4_37 d_X4_remove_56 rfl) ?_
        refine gg_som (fun s16 => ?_)
        refine gg_st (go_iinc 2 d_X4_remove_59 rfl (v := v10 + (-1 : Int32)) (by rw [ci_m1]) (by decide) (L' := [some (.ref (77)), none, some (.int (v10 + (-1 : Int32)))]) rfl rfl) ?_
        refine gg_st (go_goto (pc' := 36) d_X4_remove_62 (by decide)) ?_
        exact ih (v10 + (-1 : Int32)) s16
      · refine gg_st (go_fg [none, none, none] trivial) ?_
        exact gg_end rfl
    · refine gg_st (go_fg [none, none, none] trivial) ?_
      exact gg_end rfl
set_option maxRecDepth 20000 in
theorem k_X4_remove (l : Launch) (w : Wo) (F : Nat) (p1 : Int32) (σ : St) : K l w shC m_X4_remove 2 [.ref (77), .int p1] σ (f_X4_remove F p1 σ) (rV) := by
  refine k_of (L := [some (.ref (77)), some (.int p1), none]) (plainFor_of_name (by decide +kernel)) 1 rfl (Nat.le_of_ble_eq_true rfl) ?_
  unfold f_X4_remove
  refine gg_st (go_aload_n 0 d_X4_remove_0 rfl rfl rfl) ?_
  refine gg_st (go_iload_n 1 d_X4_remove_1 rfl rfl rfl) ?_
  refine gv_I (k_X4_has l w p1 σ) cv_X4_56 sC_77 (Nat.le_of_ble_eq_true rfl) rfl rfl (Nat.le_of_ble_eq_true rfl) d_X4_remove_2 rfl (fun x1 => ?_)
  refine gg_bind 25 (fun (t2 : St) => [some (.ref (77)), none, none]) (fun (t2 : St) => []) (fun (t2 : St) => t2) ?_ (fun t2 => ?_)
  · refine gg_br (br_if_eq (tgt := 25) (pc' := 8) d_X4_remove_5 (by decide) rfl) (fun h5 => ?_) (fun h5 => ?_)
    · refine gg_st (go_fg [some (.ref (77)), none, none] ⟨rfl, trivial⟩) ?_
      exact gg_end rfl
    · refine gg_st (go_aload_n 0 d_X4_remove_8 rfl rfl rfl) ?_
      refine gg_st (go_getR (j := 0) cf4 sC_77 rfl (by decide) fl_X4_9 d_X4_remove_9 rfl) ?_
      refine gg_st (go_iload_n 1 d_X4_remove_12 rfl rfl rfl) ?_
      refine gg_st (go_iconst d_X4_remove_13 ci_m1 rfl) ?_
      refine gg_gd (fun h6 => ?_)
      refine gg_st (go_iast sC_78 h6 d_X4_remove_14 rfl) ?_
      refine gg_som (fun s7 => ?_)
      refine gg_st (go_aload_n 0 d_X4_remove_15 rfl rfl rfl) ?_
      refine gg_st (go_dup d_X4_remove_16 rfl rfl) ?_
      refine gg_st (go_getI (j := 3) cf4 sC_77 rfl (by decide) fl_X4_27 d_X4_remove_17 rfl) ?_
      refine gg_st (go_iconst d_X4_remove_20 ci_1 rfl) ?_
      refine gg_st (go_isub d_X4_remove_21 rfl) ?_
      refine gg_st (go_putI (j := 3) cf4 sC_77 rfl (by decide) rfl rfl fl_X4_27 d_X4_remove_22 rfl) ?_
      refine gg_som (fun s8 => ?_)
      refine gg_st (go_fg [some (.ref (77)), none, none] ⟨rfl, trivial⟩) ?_
      exact gg_end rfl
  · refine gg_st (go_aload_n 0 d_X4_remove_25 rfl rfl rfl) ?_
    refine gg_st (go_getI (j := 6) cf4 sC_77 rfl (by decide) fl_X4_37 d_X4_remove_26 rfl) ?_
    refine gg_st (go_sipush d_X4_remove_29 cs_400 rfl) ?_
    refine gs_I (k_J9_min_7cf53 l w (t2.1 (77) 6) (400 : Int32) t2) cs_X4_60 (Nat.le_of_ble_eq_true rfl) rfl rfl (Nat.le_of_ble_eq_true rfl) d_X4_remove_32 rfl (fun x9 => ?_)
    refine gg_st (go_istore_n 2 d_X4_remove_35 rfl (by decide) (L' := [some (.ref (77)), none, some (.int x9)]) rfl rfl) ?_
    refine gg_bind 65 (fun (t17 : St) => [none, none, none]) (fun (t17 : St) => []) (fun (t17 : St) => t17) (g_f_X4_remove_L36 l w F F x9 t2) (fun t17 => ?_)
    exact gg_vret rfl d_X4_remove_65 rfl
def f_X7_codeInNet (p1 : Int32) (σ : St) : Option (Int32) :=
  Option.bind (some (f_X11_agentOf p1)) fun x1 =>
  if (0 ≤ x1) ∧ (x1 < (12 : Int32)) then (
    if inb x1 12 then (
      Option.bind (some (f_X11_portOf p1)) fun x4 =>
      Option.bind (some (f_X11_portCode (σ.1 (35) (ix x1)) x4)) fun x5 =>
      some x5)
    else none)
  else (
    some (-1 : Int32))
set_option maxRecDepth 20000 in
theorem k_X7_codeInNet (l : Launch) (w : Wo) (p1 : Int32) (σ : St) : K l w shC m_X7_codeInNet 2 [.ref (31), .int p1] σ (f_X7_codeInNet p1 σ) (rI σ) := by
  refine k_of (L := [some (.ref (31)), some (.int p1), none]) (plainFor_of_name (by decide +kernel)) 1 rfl (Nat.le_of_ble_eq_true rfl) ?_
  unfold f_X7_codeInNet
  refine gg_st (go_iload_n 1 d_X7_codeInNet_0 rfl rfl rfl) ?_
  refine gs_I (k_X11_agentOf l w p1 σ) cs_X7_110 (Nat.le_of_ble_eq_true rfl) rfl rfl (Nat.le_of_ble_eq_true rfl) d_X7_codeInNet_1 rfl (fun x1 => ?_)
  refine gg_st (go_istore_n 2 d_X7_codeInNet_4 rfl (by decide) (L' := [some (.ref (31)), some (.int p1), some (.int x1)]) rfl rfl) ?_
  refine gg_st (go_iload_n 2 d_X7_codeInNet_5 rfl rfl rfl) ?_
  refine gg_two (c := (0 ≤ x1) ∧ (x1 < (12 : Int32))) (pA := 15) (pB := 31) (LL := [some (.ref (31)), some (.int p1), some (.int x1)]) (ss := []) ?_ ?_ (fun hA6 hB7 => ?_)
  · refine gg_st (go_aload_n 0 d_X7_codeInNet_15 rfl rfl rfl) ?_
    refine gg_st (go_getR (j := 3) cf7 sC_31 rfl (by decide) fl_X7_22 d_X7_codeInNet_16 rfl) ?_
    refine gg_st (go_iload_n 2 d_X7_codeInNet_19 rfl rfl rfl) ?_
    refine gg_gd (fun h3 => ?_)
    refine gg_st (go_iald sC_35 h3 d_X7_codeInNet_20 rfl) ?_
    refine gg_st (go_iload_n 1 d_X7_codeInNet_21 rfl rfl rfl) ?_
    refine gs_I (k_X11_portOf l w p1 σ) cs_X7_107 (Nat.le_of_ble_eq_true rfl) rfl rfl (Nat.le_of_ble_eq_true rfl) d_X7_codeInNet_22 rfl (fun x4 => ?_)
    refine gs_I (k_X11_portCode l w (σ.1 (35) (ix x1)) x4 σ) cs_X7_93 (Nat.le_of_ble_eq_true rfl) rfl rfl (Nat.le_of_ble_eq_true rfl) d_X7_codeInNet_25 rfl (fun x5 => ?_)
    refine gg_st (go_goto (pc' := 32) d_X7_codeInNet_28 (by decide)) ?_
    exact gg_iret rfl d_X7_codeInNet_32 rfl
  · refine gg_st (go_iconst d_X7_codeInNet_31 ci_m1 rfl) ?_
    exact gg_iret rfl d_X7_codeInNet_32 rfl
  refine gg_brs (br_if_lt (tgt := 31) (pc' := 9) d_X7_codeInNet_6 (by decide) rfl) (fun h8 => ?_) (fun h8 => ?_)
  · refine gg_st (go_iload_n 2 d_X7_codeInNet_9 rfl rfl rfl) ?_
    refine gg_st (go_bipush d_X7_codeInNet_10 cb_12 rfl) ?_
    refine gg_brs (br_icmp_ge (tgt := 31) (pc' := 15) d_X7_codeInNet_12 (by decide) rfl) (fun h9 => ?_) (fun h9 => ?_)
    · exact gg_eq (if_pos ⟨h8, h9⟩) hA6
    · exact gg_eq (if_neg (fun z => h9 z.2)) hB7
  · exact gg_eq (if_neg (fun z => h8 z.1)) hB7
def f_X7_pass (p1 : Int32) (σ : St) : Option (St) :=
  Option.bind (some (f_X11_endOf p1)) fun x1 =>
  if (0 ≤ x1) ∧ (x1 < (8 : Int32)) then (
    if inb x1 8 then (
      Option.bind (some (seti σ (34) (ix x1) (1 : Int32))) fun s5 =>
      some s5)
    else none)
  else (
    some σ)
set_option maxRecDepth 20000 in
theorem k_X7_pass (l : Launch) (w : Wo) (p1 : Int32) (σ : St) : K l w shC m_X7_pass 2 [.ref (31), .int p1] σ (f_X7_pass p1 σ) (rV) := by
  refine k_of (L := [some (.ref (31)), some (.int p1), none]) (plainFor_of_name (by decide +kernel)) 1 rfl (Nat.le_of_ble_eq_true rfl) ?_
  unfold f_X7_pass
  refine gg_st (go_iload_n 1 d_X7_pass_0 rfl rfl rfl) ?_
  refine gs_I (k_X11_endOf l w p1 σ) cs_X7_141 (Nat.le_of_ble_eq_true rfl) rfl rfl (Nat.le_of_ble_eq_true rfl) d_X7_pass_1 rfl (fun x1 => ?_)
  refine gg_st (go_istore_n 2 d_X7_pass_4 rfl (by decide) (L' := [some (.ref (31)), some (.int p1), some (.int x1)]) rfl rfl) ?_
  refine gg_st (go_iload_n 2 d_X7_pass_5 rfl rfl rfl) ?_
  refine gg_two (c := (0 ≤ x1) ∧ (x1 < (8 : Int32))) (pA := 15) (pB := 22) (LL := [some (.ref (31)), some (.int p1), some (.int x1)]) (ss := []) ?_ ?_ (fun hA6 hB7 => ?_)
  · refine gg_st (go_aload_n 0 d_X7_pass_15 rfl rfl rfl) ?_
    refine gg_st (go_getR (j := 2) cf7 sC_31 rfl (by decide) fl_X7_18 d_X7_pass_16 rfl) ?_
    refine gg_st (go_iload_n 2 d_X7_pass_19 rfl rfl rfl) ?_
    refine gg_st (go_iconst d_X7_pass_20 ci_1 rfl) ?_
    refine gg_gd (fun h4 => ?_)
    refine gg_st (go_zast (Or.inr rfl) sC_34 h4 d_X7_pass_21 rfl) ?_
    refine gg_som (fun s5 => ?_)
    exact gg_vret rfl d_X7_pass_22 rfl
  · exact gg_vret rfl d_X7_pass_22 rfl
  refine gg_brs (br_if_lt (tgt := 22) (pc' := 9) d_X7_pass_6 (by decide) rfl) (fun h8 => ?_) (fun h8 => ?_)
  · refine gg_st (go_iload_n 2 d_X7_pass_9 rfl rfl rfl) ?_
    refine gg_st (go_bipush d_X7_pass_10 cb_8 rfl) ?_
    refine gg_brs (br_icmp_ge (tgt := 22) (pc' := 15) d_X7_pass_12 (by decide) rfl) (fun h9 => ?_) (fun h9 => ?_)
    · exact gg_eq (if_pos ⟨h8, h9⟩) hA6
    · exact gg_eq (if_neg (fun z => h9 z.2)) hB7
  · exact gg_eq (if_neg (fun z => h8 z.1)) hB7
def f_X8_wireOf (p1 : Int32) (p2 : Int32) (σ : St) : Option (Int32) :=
  Option.bind (some (f_X8_has (69) p1 σ)) fun x1 =>
  if (x1 = 0) ∨ ((f_X11_isInside p2 (96 : Int32)) = 0) then (
    Option.bind (some (f_X8_has (69) p1 σ)) fun x3 =>
    if (x3 = 0) ∨ ((f_X11_isInside (f_X11_endOf p2) (8 : Int32)) = 0) then (
      some (-1 : Int32))
    else (
      Option.bind (some (f_X11_endOf p2)) fun x5 =>
      if inb ((p1 * (8 : Int32)) + x5) 480 then (
        some (σ.1 (76) (ix ((p1 * (8 : Int32)) + x5))))
      else none))
  else (
    if inb ((p1 * (96 : Int32)) + p2) 5760 then (
      some (σ.1 (75) (ix ((p1 * (96 : Int32)) + p2))))
    else none)
set_option maxRecDepth 20000 in
theorem k_X8_wireOf (l : Launch) (w : Wo) (p1 : Int32) (p2 : Int32) (σ : St) : K l w shC m_X8_wireOf 2 [.ref (69), .int p1, .int p2] σ (f_X8_wireOf p1 p2 σ) (rI σ) := by
  refine k_of (L := [some (.ref (69)), some (.int p1), some (.int p2)]) (plainFor_of_name (by decide +kernel)) 0 rfl (Nat.le_of_ble_eq_true rfl) ?_
  unfold f_X8_wireOf
  refine gg_st (go_aload_n 0 d_X8_wireOf_0 rfl rfl rfl) ?_
  refine gg_st (go_iload_n 1 d_X8_wireOf_1 rfl rfl rfl) ?_
  refine gv_I (k_X8_has l w (show 69 ∈ st19_69 by decide) p1 σ) cv_X8_51 sC_69 (Nat.le_of_ble_eq_true rfl) rfl rfl (Nat.le_of_ble_eq_true rfl) d_X8_wireOf_2 rfl (fun x1 => ?_)
  refine gg_two (c := (x1 = 0) ∨ ((f_X11_isInside p2 (96 : Int32)) = 0)) (pA := 29) (pB := 17) (LL := [some (.ref (69)), some (.int p1), some (.int p2)]) (ss := []) ?_ ?_ (fun hA12 hB13 => ?_)
  · refine gg_st (go_aload_n 0 d_X8_wireOf_29 rfl rfl rfl) ?_
    refine gg_st (go_iload_n 1 d_X8_wireOf_30 rfl rfl rfl) ?_
    refine gv_I (k_X8_has l w (show 69 ∈ st19_69 by decide) p1 σ) cv_X8_51 sC_69 (Nat.le_of_ble_eq_true rfl) rfl rfl (Nat.le_of_ble_eq_true rfl) d_X8_wireOf_31 rfl (fun x3 => ?_)
    refine gg_two (c := (x3 = 0) ∨ ((f_X11_isInside (f_X11_endOf p2) (8 : Int32)) = 0)) (pA := 66) (pB := 49) (LL := [some (.ref (69)), some (.int p1), some (.int p2)]) (ss := []) ?_ ?_ (fun hA7 hB8 => ?_)
    · refine gg_st (go_iconst d_X8_wireOf_66 ci_m1 rfl) ?_
      exact gg_iret rfl d_X8_wireOf_67 rfl
    · refine gg_st (go_aload_n 0 d_X8_wireOf_49 rfl rfl rfl) ?_
      refine gg_st (go_getR (j := 6) cf8 sC_69 rfl (by decide) fl_X8_30 d_X8_wireOf_50 rfl) ?_
      refine gg_st (go_iload_n 1 d_X8_wireOf_53 rfl rfl rfl) ?_
      refine gg_st (go_bipush d_X8_wireOf_54 cb_8 rfl) ?_
      refine gg_st (go_imul d_X8_wireOf_56 rfl) ?_
      refine gg_st (go_iload_n 2 d_X8_wireOf_57 rfl rfl rfl) ?_
      refine gs_I (k_X11_endOf l w p2 σ) cs_X8_55 (Nat.le_of_ble_eq_true rfl) rfl rfl (Nat.le_of_ble_eq_true rfl) d_X8_wireOf_58 rfl (fun x5 => ?_)
      refine gg_st (go_iadd d_X8_wireOf_61 rfl) ?_
      refine gg_gd (fun h6 => ?_)
      refine gg_st (go_iald sC_76 h6 d_X8_wireOf_62 rfl) ?_
      refine gg_st (go_goto (pc' := 67) d_X8_wireOf_63 (by decide)) ?_
      exact gg_iret rfl d_X8_wireOf_67 rfl
    refine gg_brs (br_if_eq (tgt := 66) (pc' := 37) d_X8_wireOf_34 (by decide) rfl) (fun h9 => ?_) (fun h9 => ?_)
    · exact gg_eq (if_pos (Or.inl h9)) hA7
    · refine gg_st (go_iload_n 2 d_X8_wireOf_37 rfl rfl rfl) ?_
      refine gg_st (go_sI (k_X11_endOf l w p2 σ) cs_X8_55 (Nat.le_of_ble_eq_true rfl) rfl rfl (Nat.le_of_ble_eq_true rfl) d_X8_wireOf_38 rfl) ?_
      refine gg_st (go_bipush d_X8_wireOf_41 cb_8 rfl) ?_
      refine gg_st (go_sI (k_X11_isInside l w (f_X11_endOf p2) (8 : Int32) σ) cs_X8_43 (Nat.le_of_ble_eq_true rfl) rfl rfl (Nat.le_of_ble_eq_true rfl) d_X8_wireOf_43 rfl) ?_
      refine gg_brs (br_if_eq (tgt := 66) (pc' := 49) d_X8_wireOf_46 (by decide) rfl) (fun h10 => ?_) (fun h10 => ?_)
      · exact gg_eq (if_pos (Or.inr h10)) hA7
      · exact gg_eq (if_neg (fun z => z.elim h9 h10)) hB8
  · refine gg_st (go_aload_n 0 d_X8_wireOf_17 rfl rfl rfl) ?_
    refine gg_st (go_getR (j := 5) cf8 sC_69 rfl (by decide) fl_X8_27 d_X8_wireOf_18 rfl) ?_
    refine gg_st (go_iload_n 1 d_X8_wireOf_21 rfl rfl rfl) ?_
    refine gg_st (go_bipush d_X8_wireOf_22 cb_96 rfl) ?_
    refine gg_st (go_imul d_X8_wireOf_24 rfl) ?_
    refine gg_st (go_iload_n 2 d_X8_wireOf_25 rfl rfl rfl) ?_
    refine gg_st (go_iadd d_X8_wireOf_26 rfl) ?_
    refine gg_gd (fun h11 => ?_)
    refine gg_st (go_iald sC_75 h11 d_X8_wireOf_27 rfl) ?_
    exact gg_iret rfl d_X8_wireOf_28 rfl
  refine gg_brs (br_if_eq (tgt := 29) (pc' := 8) d_X8_wireOf_5 (by decide) rfl) (fun h14 => ?_) (fun h14 => ?_)
  · exact gg_eq (if_pos (Or.inl h14)) hA12
  · refine gg_st (go_iload_n 2 d_X8_wireOf_8 rfl rfl rfl) ?_
    refine gg_st (go_bipush d_X8_wireOf_9 cb_96 rfl) ?_
    refine gg_st (go_sI (k_X11_isInside l w p2 (96 : Int32) σ) cs_X8_43 (Nat.le_of_ble_eq_true rfl) rfl rfl (Nat.le_of_ble_eq_true rfl) d_X8_wireOf_11 rfl) ?_
    refine gg_brs (br_if_eq (tgt := 29) (pc' := 17) d_X8_wireOf_14 (by decide) rfl) (fun h15 => ?_) (fun h15 => ?_)
    · exact gg_eq (if_pos (Or.inr h15)) hA12
    · exact gg_eq (if_neg (fun z => z.elim h14 h15)) hB13
def f_X7_follow_L6 (F : Nat) (c2 : Int32) (k0 : Int32 × St → Option (Int32 × St)) (k1 : Int32 × St → Option (Int32 × St)) : Nat → Int32 → Int32 → St → Option (Int32 × St)
  | 0, _, _, _ => none
  | n + 1, v1, v2, g =>
    if v2 ≤ (8 : Int32) then (
      Option.bind (f_X7_pass v1 g) fun s4 =>
      Option.bind (f_X8_wireOf c2 v1 s4) fun x5 =>
      if 0 ≤ x5 then (
        k1 (x5, s4))
      else (
        Option.bind (f_X7_pass x5 s4) fun s7 =>
        Option.bind (some (f_X11_endOf x5)) fun x8 =>
        if (0 ≤ x8) ∧ (¬ ((8 : Int32) ≤ x8)) then (
          if inb x8 8 then (
            if (s7.1 (33) (ix x8)) = (-1 : Int32) then (
              k0 (x8, s7))
            else (
              if inb x8 8 then (
                Option.bind (some (f_X11_endCode (s7.1 (33) (ix x8)))) fun x14 =>
                f_X7_follow_L6 F c2 k0 k1 n x14 (v2 + (1 : Int32)) s7)
              else none))
          else none)
        else (
          some ((-1 : Int32), s7))))
    else (
      some ((-1 : Int32), g))
def f_X7_follow (F : Nat) (p1 : Int32) (p2 : Int32) (σ : St) : Option (Int32 × St) :=
  f_X7_follow_L6 F p1
    (fun (t19 : Int32 × St) =>
      if inb t19.1 8 then (
        some (t19.2.1 (32) (ix t19.1), t19.2))
      else none)
    (fun (t21 : Int32 × St) =>
      Option.bind (f_X7_codeInNet t21.1 t21.2) fun x22 =>
      some (x22, t21.2)) F p2 (0 : Int32) σ
set_option maxRecDepth 20000 in
theorem g_f_X7_follow_L6 (l : Launch) (w : Wo) (F : Nat) (c2 : Int32) (k0 : Int32 × St → Option (Int32 × St)) (k1 : Int32 × St → Option (Int32 × St)) (hk0 : ∀ t, GG l w shC m_X7_follow 3 78 [some (.ref (31)), none, none, none, none, none, none, some (.int t.1)] [] t.2 (k0 t) (fun q => .inr ((rIS) q))) (hk1 : ∀ t, GG l w shC m_X7_follow 3 33 [some (.ref (31)), none, none, none, none, none, some (.int t.1), none] [] t.2 (k1 t) (fun q => .inr ((rIS) q))) : ∀ (n : Nat) (v1 : Int32) (v2 : Int32) (g : St), GG l w shC m_X7_follow 3 6 [some (.ref (31)), some (.ref (69)), some (.int c2), none, some (.int v1), some (.int v2), none, none] [] g (f_X7_follow_L6 F c2 k0 k1 n v1 v2 g) (fun q => .inr ((rIS) q)) := by
  intro n
  induction n with
  | zero =>
    intro v1 v2 g
    exact gg_none
  | succ n ih =>
    intro v1 v2 g
    rw [f_X7_follow_L6]
    refine gg_st (go_iload 5 d_X7_follow_6 rfl rfl) ?_
    refine gg_st (go_bipush d_X7_follow_8 cb_8 rfl) ?_
    refine gg_br (br_icmp_gt (tgt := 104) (pc' := 13) d_X7_follow_10 (by decide) rfl) (fun h3 => ?_) (fun h3 => ?_)
    · refine gg_st (go_aload_n 0 d_X7_follow_13 rfl rfl rfl) ?_
      refine gg_st (go_iload 4 d_X7_follow_14 rfl rfl) ?_
      refine gv_V (k_X7_pass l w v1 g) cv_X7_133 sC_31 (Nat.le_of_ble_eq_true rfl) rfl rfl (Nat.le_of_ble_eq_true rfl) d_X7_follow_16 rfl (fun s4 => ?_)
      refine gg_st (go_aload_n 1 d_X7_follow_19 rfl rfl rfl) ?_
      refine gg_st (go_iload_n 2 d_X7_follow_20 rfl rfl rfl) ?_
      refine gg_st (go_iload 4 d_X7_follow_21 rfl rfl) ?_
      refine gv_I (k_X8_wireOf l w c2 v1 s4) cv_X7_136 sC_69 (Nat.le_of_ble_eq_true rfl) rfl rfl (Nat.le_of_ble_eq_true rfl) d_X7_follow_23 rfl (fun x5 => ?_)
      refine gg_st (go_istore 6 d_X7_follow_26 (by decide) (L' := [some (.ref (31)), some (.ref (69)), some (.int c2), none, some (.int v1), some (.int v2), some (.int x5), none]) rfl rfl) ?_
      refine gg_st (go_iload 6 d_X7_follow_28 rfl rfl) ?_
      refine gg_br (br_if_lt (tgt := 40) (pc' := 33) d_X7_follow_30 (by decide) rfl) (fun h6 => ?_) (fun h6 => ?_)
      · refine gg_st (go_fg [some (.ref (31)), none, none, none, none, none, some (.int x5), none] ⟨rfl, ⟨rfl, trivial⟩⟩) ?_
        exact hk1 (x5, s4)
      · refine gg_st (go_aload_n 0 d_X7_follow_40 rfl rfl rfl) ?_
        refine gg_st (go_iload 6 d_X7_follow_41 rfl rfl) ?_
        refine gv_V (k_X7_pass l w x5 s4) cv_X7_133 sC_31 (Nat.le_of_ble_eq_true rfl) rfl rfl (Nat.le_of_ble_eq_true rfl) d_X7_follow_43 rfl (fun s7 => ?_)
        refine gg_st (go_iload 6 d_X7_follow_46 rfl rfl) ?_
        refine gs_I (k_X11_endOf l w x5 s7) cs_X7_141 (Nat.le_of_ble_eq_true rfl) rfl rfl (Nat.le_of_ble_eq_true rfl) d_X7_follow_48 rfl (fun x8 => ?_)
        refine gg_st (go_istore 7 d_X7_follow_51 (by decide) (L' := [some (.ref (31)), some (.ref (69)), some (.int c2), none, some (.int v1), some (.int v2), some (.int x5), some (.int x8)]) rfl rfl) ?_
        refine gg_st (go_iload 7 d_X7_follow_53 rfl rfl) ?_
        refine gg_two (c := (0 ≤ x8) ∧ (¬ ((8 : Int32) ≤ x8))) (pA := 67) (pB := 65) (LL := [some (.ref (31)), some (.ref (69)), some (.int c2), none, some (.int v1), some (.int v2), some (.int x5), some (.int x8)]) (ss := []) ?_ ?_ (fun hA15 hB16 => ?_)
        · refine gg_st (go_aload_n 0 d_X7_follow_67 rfl rfl rfl) ?_
          refine gg_st (go_getR (j := 1) cf7 sC_31 rfl (by decide) fl_X7_15 d_X7_follow_68 rfl) ?_
          refine gg_st (go_iload 7 d_X7_follow_71 rfl rfl) ?_
          refine gg_gd (fun h10 => ?_)
          refine gg_st (go_iald sC_33 h10 d_X7_follow_73 rfl) ?_
          refine gg_st (go_iconst d_X7_follow_74 ci_m1 rfl) ?_
          refine gg_br (br_icmp_ne (tgt := 86) (pc' := 78) d_X7_follow_75 (by decide) rfl) (fun h12 => ?_) (fun h12 => ?_)
          · refine gg_st (go_fg [some (.ref (31)), none, none, none, none, none, none, some (.int x8)] ⟨rfl, ⟨rfl, trivial⟩⟩) ?_
            exact hk0 (x8, s7)
          · refine gg_st (go_aload_n 0 d_X7_follow_86 rfl rfl rfl) ?_
            refine gg_st (go_getR (j := 1) cf7 sC_31 rfl (by decide) fl_X7_15 d_X7_follow_87 rfl) ?_
            refine gg_st (go_iload 7 d_X7_follow_90 rfl rfl) ?_
            refine gg_gd (fun h13 => ?_)
            refine gg_st (go_iald sC_33 h13 d_X7_follow_92 rfl) ?_
            refine gs_I (k_X11_endCode l w (s7.1 (33) (ix x8)) s7) cs_X7_130 (Nat.le_of_ble_eq_true rfl) rfl rfl (Nat.le_of_ble_eq_true rfl) d_X7_follow_93 rfl (fun x14 => ?_)
            refine gg_st (go_istore 4 d_X7_follow_96 (by decide) (L' := [some (.ref (31)), some (.ref (69)), some (.int c2), none, some (.int x14), some (.int v2), some (.int x5), some (.int x8)]) rfl rfl) ?_
            refine gg_st (go_iinc 5 d_X7_follow_98 rfl (v := v2 + (1 : Int32)) (by rw [ci_1]) (by decide) (L' := [some (.ref (31)), some (.ref (69)), some (.int c2), none, some (.int x14), some (.int (v2 + (1 : Int32))), some (.int x5), some (.int x8)]) rfl rfl) ?_
            refine gg_st (go_goto (pc' := 6) d_X7_follow_101 (by decide)) ?_
            refine gg_st (go_fg [some (.ref (31)), some (.ref (69)), some (.int c2), none, some (.int x14), some (.int (v2 + (1 : Int32))), none, none] ⟨rfl, ⟨rfl, ⟨rfl, ⟨rfl, ⟨rfl, trivial⟩⟩⟩⟩⟩) ?_
            exact ih x14 (v2 + (1 : Int32)) s7
        · refine gg_st (go_iconst d_X7_follow_65 ci_m1 rfl) ?_
          exact gg_iret rfl d_X7_follow_66 rfl
        refine gg_brs (br_if_lt (tgt := 65) (pc' := 58) d_X7_follow_55 (by decide) rfl) (fun h17 => ?_) (fun h17 => ?_)
        · refine gg_st (go_iload 7 d_X7_follow_58 rfl rfl) ?_
          refine gg_st (go_bipush d_X7_follow_60 cb_8 rfl) ?_
          refine gg_brs (br_icmp_lt (tgt := 67) (pc' := 65) d_X7_follow_62 (by decide) rfl) (fun h18 => ?_) (fun h18 => ?_)
          · exact gg_eq (if_neg (fun z => (fun z => z h18) z.2)) hB16
          · exact gg_eq (if_pos ⟨h17, h18⟩) hA15
        · exact gg_eq (if_neg (fun z => h17 z.1)) hB16
    · refine gg_st (go_iconst d_X7_follow_104 ci_m1 rfl) ?_
      exact gg_iret rfl d_X7_follow_105 rfl
set_option maxRecDepth 20000 in
theorem k_X7_follow (l : Launch) (w : Wo) (F : Nat) (p1 : Int32) (p2 : Int32) (σ : St) : K l w shC m_X7_follow 3 [.ref (31), .ref (69), .int p1, .int p2] σ (f_X7_follow F p1 p2 σ) (rIS) := by
  refine k_of (L := [some (.ref (31)), some (.ref (69)), some (.int p1), some (.int p2), none, none, none, none]) (plainFor_of_name (by decide +kernel)) 4 rfl (Nat.le_of_ble_eq_true rfl) ?_
  unfold f_X7_follow
  refine gg_st (go_iload_n 3 d_X7_follow_0 rfl rfl rfl) ?_
  refine gg_st (go_istore 4 d_X7_follow_1 (by decide) (L' := [some (.ref (31)), some (.ref (69)), some (.int p1), some (.int p2), some (.int p2), none, none, none]) rfl rfl) ?_
  refine gg_st (go_iconst d_X7_follow_3 ci_0 rfl) ?_
  refine gg_st (go_istore 5 d_X7_follow_4 (by decide) (L' := [some (.ref (31)), some (.ref (69)), some (.int p1), some (.int p2), some (.int p2), some (.int (0 : Int32)), none, none]) rfl rfl) ?_
  refine gg_st (go_fg [some (.ref (31)), some (.ref (69)), some (.int p1), none, some (.int p2), some (.int (0 : Int32)), none, none] ⟨rfl, ⟨rfl, ⟨rfl, ⟨rfl, ⟨rfl, trivial⟩⟩⟩⟩⟩) ?_
  refine g_f_X7_follow_L6 l w F p1 _ _ (fun t19 => ?_) (fun t21 => ?_) F p2 (0 : Int32) σ
  · refine gg_st (go_aload_n 0 d_X7_follow_78 rfl rfl rfl) ?_
    refine gg_st (go_getR (j := 0) cf7 sC_31 rfl (by decide) fl_X7_9 d_X7_follow_79 rfl) ?_
    refine gg_st (go_iload 7 d_X7_follow_82 rfl rfl) ?_
    refine gg_gd (fun h20 => ?_)
    refine gg_st (go_iald sC_32 h20 d_X7_follow_84 rfl) ?_
    exact gg_iret rfl d_X7_follow_85 rfl
  · refine gg_st (go_aload_n 0 d_X7_follow_33 rfl rfl rfl) ?_
    refine gg_st (go_iload 6 d_X7_follow_34 rfl rfl) ?_
    refine gv_I (k_X7_codeInNet l w t21.1 t21.2) cv_X7_138 sC_31 (Nat.le_of_ble_eq_true rfl) rfl rfl (Nat.le_of_ble_eq_true rfl) d_X7_follow_36 rfl (fun x22 => ?_)
    exact gg_iret rfl d_X7_follow_39 rfl
def f_X7_countRings_L5 (F : Nat) (c2 : Int32) : Nat → Int32 → Int32 → St → Option (Int32 × St)
  | 0, _, _, _ => none
  | n + 1, v1, v2, g =>
    if v2 < (8 : Int32) then (
      if inb v2 8 then (
        Option.bind (
          if (g.1 (34) (ix v2)) = 0 then (
            Option.bind (some (v1 + (1 : Int32))) fun x8 =>
            Option.bind (some (f_X11_endCode v2)) fun x9 =>
            Option.bind (f_X7_follow F c2 x9 g) fun x10 =>
            some (x8, x10.2))
          else (
            some (v1, g))) fun t6 =>
        f_X7_countRings_L5 F c2 n t6.1 (v2 + (1 : Int32)) t6.2)
      else none)
    else (
      some (v1, g))
def f_X7_countRings (F : Nat) (p1 : Int32) (σ : St) : Option (Int32 × St) :=
  Option.bind (f_X7_countRings_L5 F p1 F (0 : Int32) (0 : Int32) σ) fun t11 =>
  some (t11.1, t11.2)
set_option maxRecDepth 20000 in
theorem g_f_X7_countRings_L5 (l : Launch) (w : Wo) (F : Nat) (c2 : Int32) : ∀ (n : Nat) (v1 : Int32) (v2 : Int32) (g : St), GG l w shC m_X7_countRings 4 5 [some (.ref (31)), some (.ref (69)), some (.int c2), some (.int v1), some (.int v2)] [] g (f_X7_countRings_L5 F c2 n v1 v2 g) (fun (t : Int32 × St) => .inl (43, [none, none, none, some (.int t.1), none], [], t.2)) := by
  intro n
  induction n with
  | zero =>
    intro v1 v2 g
    exact gg_none
  | succ n ih =>
    intro v1 v2 g
    rw [f_X7_countRings_L5]
    refine gg_st (go_iload 4 d_X7_countRings_5 rfl rfl) ?_
    refine gg_st (go_bipush d_X7_countRings_7 cb_8 rfl) ?_
    refine gg_br (br_icmp_ge (tgt := 43) (pc' := 12) d_X7_countRings_9 (by decide) rfl) (fun h4 => ?_) (fun h4 => ?_)
    · refine gg_st (go_aload_n 0 d_X7_countRings_12 rfl rfl rfl) ?_
      refine gg_st (go_getR (j := 2) cf7 sC_31 rfl (by decide) fl_X7_18 d_X7_countRings_13 rfl) ?_
      refine gg_st (go_iload 4 d_X7_countRings_16 rfl rfl) ?_
      refine gg_gd (fun h5 => ?_)
      refine gg_st (go_zald sC_34 h5 d_X7_countRings_18 rfl) ?_
      refine gg_bind 37 (fun (t6 : Int32 × St) => [some (.ref (31)), some (.ref (69)), some (.int c2), some (.int t6.1), some (.int v2)]) (fun (t6 : Int32 × St) => []) (fun (t6 : Int32 × St) => t6.2) ?_ (fun t6 => ?_)
      · refine gg_br (br_if_ne (tgt := 37) (pc' := 22) d_X7_countRings_19 (by decide) rfl) (fun h7 => ?_) (fun h7 => ?_)
        · refine gg_st (go_iinc 3 d_X7_countRings_22 rfl (v := v1 + (1 : Int32)) (by rw [ci_1]) (by decide) (L' := [some (.ref (31)), some (.ref (69)), some (.int c2), some (.int (v1 + (1 : Int32))), some (.int v2)]) rfl rfl) ?_
          refine gg_nm (fun (x8 : Int32) => [some (.ref (31)), some (.ref (69)), some (.int c2), some (.int x8), some (.int v2)]) (fun _ => []) (fun x8 => ?_)
          refine gg_st (go_aload_n 0 d_X7_countRings_25 rfl rfl rfl) ?_
          refine gg_st (go_aload_n 1 d_X7_countRings_26 rfl rfl rfl) ?_
          refine gg_st (go_iload_n 2 d_X7_countRings_27 rfl rfl rfl) ?_
          refine gg_st (go_iload 4 d_X7_countRings_28 rfl rfl) ?_
          refine gs_I (k_X11_endCode l w v2 g) cs_X7_130 (Nat.le_of_ble_eq_true rfl) rfl rfl (Nat.le_of_ble_eq_true rfl) d_X7_countRings_30 rfl (fun x9 => ?_)
          refine gv_IS (k_X7_follow l w F c2 x9 g) cv_X7_122 sC_31 (Nat.le_of_ble_eq_true rfl) rfl rfl (Nat.le_of_ble_eq_true rfl) d_X7_countRings_33 rfl (fun x10 => ?_)
          refine gg_st (go_pop d_X7_countRings_36 rfl rfl) ?_
          exact gg_end rfl
        · exact gg_end rfl
      · refine gg_st (go_iinc 4 d_X7_countRings_37 rfl (v := v2 + (1 : Int32)) (by rw [ci_1]) (by decide) (L' := [some (.ref (31)), some (.ref (69)), some (.int c2), some (.int t6.1), some (.int (v2 + (1 : Int32)))]) rfl rfl) ?_
        refine gg_st (go_goto (pc' := 5) d_X7_countRings_40 (by decide)) ?_
        exact ih t6.1 (v2 + (1 : Int32)) t6.2
    · refine gg_st (go_fg [none, none, none, some (.int v1), none] ⟨rfl, trivial⟩) ?_
      exact gg_end rfl
set_option maxRecDepth 20000 in
theorem k_X7_countRings (l : Launch) (w : Wo) (F : Nat) (p1 : Int32) (σ : St) : K l w shC m_X7_countRings 4 [.ref (31), .ref (69), .int p1] σ (f_X7_countRings F p1 σ) (rIS) := by
  refine k_of (L := [some (.ref (31)), some (.ref (69)), some (.int p1), none, none]) (plainFor_of_name (by decide +kernel)) 2 rfl (Nat.le_of_ble_eq_true rfl) ?_
  unfold f_X7_countRings
  refine gg_st (go_iconst d_X7_countRings_0 ci_0 rfl) ?_
  refine gg_st (go_istore_n 3 d_X7_countRings_1 rfl (by decide) (L' := [some (.ref (31)), some (.ref (69)), some (.int p1), some (.int (0 : Int32)), none]) rfl rfl) ?_
  refine gg_st (go_iconst d_X7_countRings_2 ci_0 rfl) ?_
  refine gg_st (go_istore 4 d_X7_countRings_3 (by decide) (L' := [some (.ref (31)), some (.ref (69)), some (.int p1), some (.int (0 : Int32)), some (.int (0 : Int32))]) rfl rfl) ?_
  refine gg_bind 43 (fun (t11 : Int32 × St) => [none, none, none, some (.int t11.1), none]) (fun (t11 : Int32 × St) => []) (fun (t11 : Int32 × St) => t11.2) (g_f_X7_countRings_L5 l w F p1 F (0 : Int32) (0 : Int32) σ) (fun t11 => ?_)
  refine gg_st (go_iload_n 3 d_X7_countRings_43 rfl rfl rfl) ?_
  exact gg_iret rfl d_X7_countRings_44 rfl
