def f_X12_read_L32 (F : Nat) : Nat → Int32 → St → Option (St)
  | 0, _, _ => none
  | n + 1, v7, g =>
    if v7 < (256 : Int32) then (
      if inb v7 256 then (
        Option.bind (some (seti g (21) (ix v7) (-1 : Int32))) fun s12 =>
        f_X12_read_L32 F n (v7 + (1 : Int32)) s12)
      else none)
    else (
      some g)
def f_X12_read (F : Nat) (σ : St) : Option (Int32 × St) :=
  Option.bind (some (seti σ (0) 36 (0 : Int32))) fun s1 =>
  Option.bind (some (seti s1 (0) 41 (0 : Int32))) fun s2 =>
  Option.bind (some (seti s2 (0) 48 (0 : Int32))) fun s3 =>
  Option.bind (some (seti s3 (0) 63 (0 : Int32))) fun s4 =>
  Option.bind (some (seti s4 (0) 66 (0 : Int32))) fun s5 =>
  Option.bind (some (seti s5 (0) 68 (0 : Int32))) fun s6 =>
  Option.bind (f_X12_read_L32 F F (0 : Int32) s6) fun t13 =>
  Option.bind (some (seti t13 (0) 31 (0 : Int32))) fun s14 =>
  Option.bind (some (seti s14 (0) 2 (-1 : Int32))) fun s15 =>
  Option.bind (f_X12_readBook F s15) fun x16 =>
  Option.bind (some (seti x16.2 (0) 1 (0 : Int32))) fun s17 =>
  if x16.1 = 0 then (
    some ((-10 : Int32) - (s17.1 (0) 35), s17))
  else (
    Option.bind (f_X12_takeOver F s17) fun s19 =>
    some (s19.1 (0) 63, s19))
set_option maxRecDepth 20000 in
theorem g_f_X12_read_L32 (l : Launch) (w : Wo) (F : Nat) : ∀ (n : Nat) (v7 : Int32) (g : St), GG l w shM m_X12_read 8 32 [some (.ref (0)), some (.int v7)] [] g (f_X12_read_L32 F n v7 g) (fun (t : St) => .inl (52, [some (.ref (0)), none], [], t)) := by
  intro n
  induction n with
  | zero =>
    intro v7 g
    exact gg_none
  | succ n ih =>
    intro v7 g
    rw [f_X12_read_L32]
    refine gg_st (go_iload_n 1 d_X12_read_32 rfl rfl rfl) ?_
    refine gg_st (go_sipush d_X12_read_33 cs_256 rfl) ?_
    refine gg_br (br_icmp_ge (tgt := 52) (pc' := 39) d_X12_read_36 (by decide) rfl) (fun h10 => ?_) (fun h10 => ?_)
    · refine gg_st (go_aload_n 0 d_X12_read_39 rfl rfl rfl) ?_
      refine gg_st (go_getR (j := 42) cf12 sM_0 rfl (by decide) fl_X12_80 d_X12_read_40 rfl) ?_
      refine gg_st (go_iload_n 1 d_X12_read_43 rfl rfl rfl) ?_
      refine gg_st (go_iconst d_X12_read_44 ci_m1 rfl) ?_
      refine gg_gd (fun h11 => ?_)
      refine gg_st (go_iast sM_21 h11 d_X12_read_45 rfl) ?_
      refine gg_som (fun s12 => ?_)
      refine gg_st (go_iinc 1 d_X12_read_46 rfl (v := v7 + (1 : Int32)) (by rw [ci_1]) (by decide) (L' := [some (.ref (0)), some (.int (v7 + (1 : Int32)))]) rfl rfl) ?_
      refine gg_st (go_goto (pc' := 32) d_X12_read_49 (by decide)) ?_
      exact ih (v7 + (1 : Int32)) s12
    · refine gg_st (go_fg [some (.ref (0)), none] ⟨rfl, trivial⟩) ?_
      exact gg_end rfl
set_option maxRecDepth 20000 in
theorem k_X12_read (l : Launch) (w : Wo) (F : Nat) (σ : St) : K l w shM m_X12_read 8 [.ref (0)] σ (f_X12_read F σ) (rIS) := by
  refine k_of (L := [some (.ref (0)), none]) (plainFor_of_name (by decide +kernel)) 1 rfl (Nat.le_of_ble_eq_true rfl) ?_
  unfold f_X12_read
  refine gg_st (go_aload_n 0 d_X12_read_0 rfl rfl rfl) ?_
  refine gg_st (go_iconst d_X12_read_1 ci_0 rfl) ?_
  refine gg_st (go_putI (j := 36) cf12 sM_0 rfl (by decide) rfl rfl fl_X12_248 d_X12_read_2 rfl) ?_
  refine gg_som (fun s1 => ?_)
  refine gg_st (go_aload_n 0 d_X12_read_5 rfl rfl rfl) ?_
  refine gg_st (go_iconst d_X12_read_6 ci_0 rfl) ?_
  refine gg_st (go_putI (j := 41) cf12 sM_0 rfl (by decide) rfl rfl fl_X12_296 d_X12_read_7 rfl) ?_
  refine gg_som (fun s2 => ?_)
  refine gg_st (go_aload_n 0 d_X12_read_10 rfl rfl rfl) ?_
  refine gg_st (go_iconst d_X12_read_11 ci_0 rfl) ?_
  refine gg_st (go_putZ (Or.inl rfl) (j := 48) cf12 sM_0 rfl (by decide) rfl rfl fl_X12_320 d_X12_read_12 rfl) ?_
  refine gg_som (fun s3 => ?_)
  refine gg_st (go_aload_n 0 d_X12_read_15 rfl rfl rfl) ?_
  refine gg_st (go_iconst d_X12_read_16 ci_0 rfl) ?_
  refine gg_st (go_putI (j := 63) cf12 sM_0 rfl (by decide) rfl rfl fl_X12_327 d_X12_read_17 rfl) ?_
  refine gg_som (fun s4 => ?_)
  refine gg_st (go_aload_n 0 d_X12_read_20 rfl rfl rfl) ?_
  refine gg_st (go_iconst d_X12_read_21 ci_0 rfl) ?_
  refine gg_st (go_putI (j := 66) cf12 sM_0 rfl (by decide) rfl rfl fl_X12_324 d_X12_read_22 rfl) ?_
  refine gg_som (fun s5 => ?_)
  refine gg_st (go_aload_n 0 d_X12_read_25 rfl rfl rfl) ?_
  refine gg_st (go_iconst d_X12_read_26 ci_0 rfl) ?_
  refine gg_st (go_putI (j := 68) cf12 sM_0 rfl (by decide) rfl rfl fl_X12_330 d_X12_read_27 rfl) ?_
  refine gg_som (fun s6 => ?_)
  refine gg_st (go_iconst d_X12_read_30 ci_0 rfl) ?_
  refine gg_st (go_istore_n 1 d_X12_read_31 rfl (by decide) (L' := [some (.ref (0)), some (.int (0 : Int32))]) rfl rfl) ?_
  refine gg_bind 52 (fun (t13 : St) => [some (.ref (0)), none]) (fun (t13 : St) => []) (fun (t13 : St) => t13) (g_f_X12_read_L32 l w F F (0 : Int32) s6) (fun t13 => ?_)
  refine gg_st (go_aload_n 0 d_X12_read_52 rfl rfl rfl) ?_
  refine gg_st (go_iconst d_X12_read_53 ci_0 rfl) ?_
  refine gg_st (go_putI (j := 31) cf12 sM_0 rfl (by decide) rfl rfl fl_X12_195 d_X12_read_54 rfl) ?_
  refine gg_som (fun s14 => ?_)
  refine gg_st (go_aload_n 0 d_X12_read_57 rfl rfl rfl) ?_
  refine gg_st (go_iconst d_X12_read_58 ci_m1 rfl) ?_
  refine gg_st (go_putI (j := 2) cf12 sM_0 rfl (by decide) rfl rfl fl_X12_13 d_X12_read_59 rfl) ?_
  refine gg_som (fun s15 => ?_)
  refine gg_st (go_aload_n 0 d_X12_read_62 rfl rfl rfl) ?_
  refine gv_IS (k_X12_readBook l w F  s15) cv_X12_348 sM_0 (Nat.le_of_ble_eq_true rfl) rfl rfl (Nat.le_of_ble_eq_true rfl) d_X12_read_63 rfl (fun x16 => ?_)
  refine gg_st (go_istore_n 1 d_X12_read_66 rfl (by decide) (L' := [some (.ref (0)), some (.int x16.1)]) rfl rfl) ?_
  refine gg_st (go_aload_n 0 d_X12_read_67 rfl rfl rfl) ?_
  refine gg_st (go_iconst d_X12_read_68 ci_0 rfl) ?_
  refine gg_st (go_putI (j := 1) cf12 sM_0 rfl (by decide) rfl rfl fl_X12_188 d_X12_read_69 rfl) ?_
  refine gg_som (fun s17 => ?_)
  refine gg_st (go_iload_n 1 d_X12_read_72 rfl rfl rfl) ?_
  refine gg_br (br_if_ne (tgt := 84) (pc' := 76) d_X12_read_73 (by decide) rfl) (fun h18 => ?_) (fun h18 => ?_)
  · refine gg_st (go_bipush d_X12_read_76 cb_m10 rfl) ?_
    refine gg_st (go_aload_n 0 d_X12_read_78 rfl rfl rfl) ?_
    refine gg_st (go_getI (j := 35) cf12 sM_0 rfl (by decide) fl_X12_231 d_X12_read_79 rfl) ?_
    refine gg_st (go_isub d_X12_read_82 rfl) ?_
    exact gg_iret rfl d_X12_read_83 rfl
  · refine gg_st (go_aload_n 0 d_X12_read_84 rfl rfl rfl) ?_
    refine gv_V (k_X12_takeOver l w F  s17) cv_X12_351 sM_0 (Nat.le_of_ble_eq_true rfl) rfl rfl (Nat.le_of_ble_eq_true rfl) d_X12_read_85 rfl (fun s19 => ?_)
    refine gg_st (go_aload_n 0 d_X12_read_88 rfl rfl rfl) ?_
    refine gg_st (go_getI (j := 63) cf12 sM_0 rfl (by decide) fl_X12_327 d_X12_read_89 rfl) ?_
    exact gg_iret rfl d_X12_read_92 rfl
def f_X12_rule (p1 : Int32) (p2 : Int32) (σ : St) : Option (Int32) :=
  Option.bind (some (f_X12_in (p1.toInt64) (0 : Int64) (((σ.1 (0) 3) - (1 : Int32)).toInt64))) fun x1 =>
  if (x1 = 0) ∨ ((f_X12_in (p2.toInt64) (0 : Int64) (((σ.1 (0) 3) - (1 : Int32)).toInt64)) = 0) then (
    some (-1001 : Int32))
  else (
    if inb (((16 : Int32) * p1) + p2) 256 then (
      Option.bind (some (σ.1 (6) (ix (((16 : Int32) * p1) + p2)))) fun x4 =>
      if x4 < 0 then (
        some (-1 : Int32))
      else (
        if inb x4 60 then (
          some (σ.1 (8) (ix x4)))
        else none))
    else none)
set_option maxRecDepth 20000 in
theorem k_X12_rule (l : Launch) (w : Wo) (p1 : Int32) (p2 : Int32) (σ : St) : K l w shM m_X12_rule 2 [.ref (0), .int p1, .int p2] σ (f_X12_rule p1 p2 σ) (rI σ) := by
  refine k_of (L := [some (.ref (0)), some (.int p1), some (.int p2), none]) (plainFor_of_name (by decide +kernel)) 1 rfl (Nat.le_of_ble_eq_true rfl) ?_
  unfold f_X12_rule
  refine gg_st (go_iload_n 1 d_X12_rule_0 rfl rfl rfl) ?_
  refine gg_st (go_i2l d_X12_rule_1 rfl) ?_
  refine gg_st (go_lconst d_X12_rule_2 (v := (0 : Int64)) (by decide) rfl) ?_
  refine gg_st (go_aload_n 0 d_X12_rule_3 rfl rfl rfl) ?_
  refine gg_st (go_getI (j := 3) cf12 sM_0 rfl (by decide) fl_X12_354 d_X12_rule_4 rfl) ?_
  refine gg_st (go_iconst d_X12_rule_7 ci_1 rfl) ?_
  refine gg_st (go_isub d_X12_rule_8 rfl) ?_
  refine gg_st (go_i2l d_X12_rule_9 rfl) ?_
  refine gs_I (k_X12_in l w (p1.toInt64) (0 : Int64) (((σ.1 (0) 3) - (1 : Int32)).toInt64) σ) cs_X12_191 (Nat.le_of_ble_eq_true rfl) rfl rfl (Nat.le_of_ble_eq_true rfl) d_X12_rule_10 rfl (fun x1 => ?_)
  refine gg_two (c := (x1 = 0) ∨ ((f_X12_in (p2.toInt64) (0 : Int64) (((σ.1 (0) 3) - (1 : Int32)).toInt64)) = 0)) (pA := 32) (pB := 36) (LL := [some (.ref (0)), some (.int p1), some (.int p2), none]) (ss := []) ?_ ?_ (fun hA8 hB9 => ?_)
  · refine gg_st (go_sipush d_X12_rule_32 cs_m1001 rfl) ?_
    exact gg_iret rfl d_X12_rule_35 rfl
  · refine gg_st (go_aload_n 0 d_X12_rule_36 rfl rfl rfl) ?_
    refine gg_st (go_getR (j := 9) cf12 sM_0 rfl (by decide) fl_X12_31 d_X12_rule_37 rfl) ?_
    refine gg_st (go_bipush d_X12_rule_40 cb_16 rfl) ?_
    refine gg_st (go_iload_n 1 d_X12_rule_42 rfl rfl rfl) ?_
    refine gg_st (go_imul d_X12_rule_43 rfl) ?_
    refine gg_st (go_iload_n 2 d_X12_rule_44 rfl rfl rfl) ?_
    refine gg_st (go_iadd d_X12_rule_45 rfl) ?_
    refine gg_gd (fun h3 => ?_)
    refine gg_st (go_iald sM_6 h3 d_X12_rule_46 rfl) ?_
    refine gg_nm (fun _ => [some (.ref (0)), some (.int p1), some (.int p2), none]) (fun (x4 : Int32) => [.int x4]) (fun x4 => ?_)
    refine gg_st (go_istore_n 3 d_X12_rule_47 rfl (by decide) (L' := [some (.ref (0)), some (.int p1), some (.int p2), some (.int x4)]) rfl rfl) ?_
    refine gg_st (go_iload_n 3 d_X12_rule_48 rfl rfl rfl) ?_
    refine gg_br (br_if_ge (tgt := 56) (pc' := 52) d_X12_rule_49 (by decide) rfl) (fun h6 => ?_) (fun h6 => ?_)
    · refine gg_st (go_iconst d_X12_rule_52 ci_m1 rfl) ?_
      refine gg_st (go_goto (pc' := 62) d_X12_rule_53 (by decide)) ?_
      exact gg_iret rfl d_X12_rule_62 rfl
    · refine gg_st (go_aload_n 0 d_X12_rule_56 rfl rfl rfl) ?_
      refine gg_st (go_getR (j := 11) cf12 sM_0 rfl (by decide) fl_X12_37 d_X12_rule_57 rfl) ?_
      refine gg_st (go_iload_n 3 d_X12_rule_60 rfl rfl rfl) ?_
      refine gg_gd (fun h7 => ?_)
      refine gg_st (go_iald sM_8 h7 d_X12_rule_61 rfl) ?_
      exact gg_iret rfl d_X12_rule_62 rfl
  refine gg_brs (br_if_eq (tgt := 32) (pc' := 16) d_X12_rule_13 (by decide) rfl) (fun h10 => ?_) (fun h10 => ?_)
  · exact gg_eq (if_pos (Or.inl h10)) hA8
  · refine gg_st (go_iload_n 2 d_X12_rule_16 rfl rfl rfl) ?_
    refine gg_st (go_i2l d_X12_rule_17 rfl) ?_
    refine gg_st (go_lconst d_X12_rule_18 (v := (0 : Int64)) (by decide) rfl) ?_
    refine gg_st (go_aload_n 0 d_X12_rule_19 rfl rfl rfl) ?_
    refine gg_st (go_getI (j := 3) cf12 sM_0 rfl (by decide) fl_X12_354 d_X12_rule_20 rfl) ?_
    refine gg_st (go_iconst d_X12_rule_23 ci_1 rfl) ?_
    refine gg_st (go_isub d_X12_rule_24 rfl) ?_
    refine gg_st (go_i2l d_X12_rule_25 rfl) ?_
    refine gg_st (go_sI (k_X12_in l w (p2.toInt64) (0 : Int64) (((σ.1 (0) 3) - (1 : Int32)).toInt64) σ) cs_X12_191 (Nat.le_of_ble_eq_true rfl) rfl rfl (Nat.le_of_ble_eq_true rfl) d_X12_rule_26 rfl) ?_
    refine gg_brs (br_if_ne (tgt := 36) (pc' := 32) d_X12_rule_29 (by decide) rfl) (fun h11 => ?_) (fun h11 => ?_)
    · exact gg_eq (if_pos (Or.inr h11)) hA8
    · exact gg_eq (if_neg (fun z => z.elim h10 h11)) hB9
def f_X12_runRounds_L19 (F : Nat) (c1 : Int32) (c2 : Int32) : Nat → Int32 → Int32 → St → Option (Int32 × St)
  | 0, _, _, _ => none
  | n + 1, v3, v4, g =>
    if v4 < (400 : Int32) then (
      Option.bind (f_X12_isPair v4 (1 : Int32) g) fun x6 =>
      Option.bind (
        if x6 = 0 then (
          some (v3, g))
        else (
          if inb v3 200 then (
            Option.bind (some (seti g (43) (ix v3) v4)) fun s12 =>
            Option.bind (some (v3 + (1 : Int32))) fun x13 =>
            some (x13, s12))
          else none)) fun t7 =>
      f_X12_runRounds_L19 F c1 c2 n t7.1 (v4 + (1 : Int32)) t7.2)
    else (
      some (v3, g))
def f_X12_runRounds_L87 (F : Nat) (c1 : Int32) (c4 : Int32) : Nat → Int32 → Int32 → Int32 → St → Option (Int32 × Int32 × St)
  | 0, _, _, _, _ => none
  | n + 1, v20, v21, v22, g =>
    if (v22 < c4) ∧ ((¬ (v21 = 0)) ∧ (v20 < c1)) then (
      if inb v22 200 then (
        if inb v22 200 then (
          Option.bind (f_X12_facing (g.1 (43) (ix v22)) g) fun x26 =>
          Option.bind (f_X12_doStep F (g.1 (43) (ix v22)) x26 g) fun x27 =>
          Option.bind (
            if x27.1 = 0 then (
              some (1 : Int32))
            else (
              some (0 : Int32))) fun t28 =>
          Option.bind (some (seti x27.2 (0) 23 t28)) fun s30 =>
          Option.bind (
            if x27.1 = 0 then (
              some (0 : Int32))
            else (
              some (1 : Int32))) fun t31 =>
          Option.bind (some (v20 + t31)) fun x33 =>
          f_X12_runRounds_L87 F c1 c4 n x33 x27.1 (v22 + (1 : Int32)) s30)
        else none)
      else none)
    else (
      some (v20, v21, g))
def f_X12_runRounds_L4 (F : Nat) (c1 : Int32) : Nat → Int32 → Int32 → St → Option (Int32 × St)
  | 0, _, _, _ => none
  | n + 1, v1, v2, g =>
    if (v2 = 0) ∨ (¬ (v1 < c1)) then (
      some (v1, g))
    else (
      Option.bind (f_X12_runRounds_L19 F c1 v1 F (0 : Int32) (0 : Int32) g) fun t14 =>
      Option.bind (
        if 0 < t14.1 then (
          some (1 : Int32))
        else (
          some (0 : Int32))) fun t15 =>
      Option.bind (
        if t15 = 0 then (
          some (0 : Int32))
        else (
          some (1 : Int32))) fun t17 =>
      Option.bind (some (seti t14.2 (0) 22 ((t14.2.1 (0) 22) + t17))) fun s19 =>
      Option.bind (f_X12_runRounds_L87 F c1 t14.1 F v1 t15 (0 : Int32) s19) fun t39 =>
      f_X12_runRounds_L4 F c1 n t39.1 t39.2.1 t39.2.2)
def f_X12_runRounds (F : Nat) (p1 : Int32) (σ : St) : Option (Int32 × St) :=
  Option.bind (f_X12_runRounds_L4 F p1 F (0 : Int32) (1 : Int32) σ) fun t44 =>
  some (t44.1, t44.2)
set_option maxRecDepth 20000 in
theorem g_f_X12_runRounds_L19 (l : Launch) (w : Wo) (F : Nat) (c1 : Int32) (c2 : Int32) : ∀ (n : Nat) (v3 : Int32) (v4 : Int32) (g : St), GG l w shM m_X12_runRounds 4 19 [some (.ref (0)), some (.int c1), some (.int c2), none, some (.int v3), some (.int v4)] [] g (f_X12_runRounds_L19 F c1 c2 n v3 v4 g) (fun (t : Int32 × St) => .inl (55, [some (.ref (0)), some (.int c1), some (.int c2), none, some (.int t.1), none], [], t.2)) := by
  intro n
  induction n with
  | zero =>
    intro v3 v4 g
    exact gg_none
  | succ n ih =>
    intro v3 v4 g
    rw [f_X12_runRounds_L19]
    refine gg_st (go_iload 5 d_X12_runRounds_19 rfl rfl) ?_
    refine gg_st (go_sipush d_X12_runRounds_21 cs_400 rfl) ?_
    refine gg_br (br_icmp_ge (tgt := 55) (pc' := 27) d_X12_runRounds_24 (by decide) rfl) (fun h5 => ?_) (fun h5 => ?_)
    · refine gg_st (go_aload_n 0 d_X12_runRounds_27 rfl rfl rfl) ?_
      refine gg_st (go_iload 5 d_X12_runRounds_28 rfl rfl) ?_
      refine gg_st (go_iconst d_X12_runRounds_30 ci_1 rfl) ?_
      refine gv_I (k_X12_isPair l w v4 (1 : Int32) g) cv_X12_381 sM_0 (Nat.le_of_ble_eq_true rfl) rfl rfl (Nat.le_of_ble_eq_true rfl) d_X12_runRounds_31 rfl (fun x6 => ?_)
      refine gg_bind 49 (fun (t7 : Int32 × St) => [some (.ref (0)), some (.int c1), some (.int c2), none, some (.int t7.1), some (.int v4)]) (fun (t7 : Int32 × St) => []) (fun (t7 : Int32 × St) => t7.2) ?_ (fun t7 => ?_)
      · refine gg_br (br_if_eq (tgt := 49) (pc' := 37) d_X12_runRounds_34 (by decide) rfl) (fun h10 => ?_) (fun h10 => ?_)
        · exact gg_end rfl
        · refine gg_st (go_aload_n 0 d_X12_runRounds_37 rfl rfl rfl) ?_
          refine gg_st (go_getR (j := 72) cf12 sM_0 rfl (by decide) fl_X12_146 d_X12_runRounds_38 rfl) ?_
          refine gg_st (go_iload 4 d_X12_runRounds_41 rfl rfl) ?_
          refine gg_st (go_iload 5 d_X12_runRounds_43 rfl rfl) ?_
          refine gg_gd (fun h11 => ?_)
          refine gg_st (go_iast sM_43 h11 d_X12_runRounds_45 rfl) ?_
          refine gg_som (fun s12 => ?_)
          refine gg_st (go_iinc 4 d_X12_runRounds_46 rfl (v := v3 + (1 : Int32)) (by rw [ci_1]) (by decide) (L' := [some (.ref (0)), some (.int c1), some (.int c2), none, some (.int (v3 + (1 : Int32))), some (.int v4)]) rfl rfl) ?_
          refine gg_nm (fun (x13 : Int32) => [some (.ref (0)), some (.int c1), some (.int c2), none, some (.int x13), some (.int v4)]) (fun _ => []) (fun x13 => ?_)
          exact gg_end rfl
      · refine gg_st (go_iinc 5 d_X12_runRounds_49 rfl (v := v4 + (1 : Int32)) (by rw [ci_1]) (by decide) (L' := [some (.ref (0)), some (.int c1), some (.int c2), none, some (.int t7.1), some (.int (v4 + (1 : Int32)))]) rfl rfl) ?_
        refine gg_st (go_goto (pc' := 19) d_X12_runRounds_52 (by decide)) ?_
        exact ih t7.1 (v4 + (1 : Int32)) t7.2
    · refine gg_st (go_fg [some (.ref (0)), some (.int c1), some (.int c2), none, some (.int v3), none] ⟨rfl, ⟨rfl, ⟨rfl, ⟨rfl, trivial⟩⟩⟩⟩) ?_
      exact gg_end rfl
set_option maxRecDepth 20000 in
theorem g_f_X12_runRounds_L87 (l : Launch) (w : Wo) (F : Nat) (c1 : Int32) (c4 : Int32) : ∀ (n : Nat) (v20 : Int32) (v21 : Int32) (v22 : Int32) (g : St), GG l w shM m_X12_runRounds 4 87 [some (.ref (0)), some (.int c1), some (.int v20), some (.int v21), some (.int c4), some (.int v22)] [] g (f_X12_runRounds_L87 F c1 c4 n v20 v21 v22 g) (fun (t : Int32 × Int32 × St) => .inl (157, [some (.ref (0)), some (.int c1), some (.int t.1), some (.int t.2.1), none, none], [], t.2.2)) := by
  intro n
  induction n with
  | zero =>
    intro v20 v21 v22 g
    exact gg_none
  | succ n ih =>
    intro v20 v21 v22 g
    rw [f_X12_runRounds_L87]
    refine gg_st (go_iload 5 d_X12_runRounds_87 rfl rfl) ?_
    refine gg_st (go_iload 4 d_X12_runRounds_89 rfl rfl) ?_
    refine gg_two (c := (v22 < c4) ∧ ((¬ (v21 = 0)) ∧ (v20 < c1))) (pA := 103) (pB := 157) (LL := [some (.ref (0)), some (.int c1), some (.int v20), some (.int v21), some (.int c4), some (.int v22)]) (ss := []) ?_ ?_ (fun hA34 hB35 => ?_)
    · refine gg_st (go_aload_n 0 d_X12_runRounds_103 rfl rfl rfl) ?_
      refine gg_st (go_aload_n 0 d_X12_runRounds_104 rfl rfl rfl) ?_
      refine gg_st (go_getR (j := 72) cf12 sM_0 rfl (by decide) fl_X12_146 d_X12_runRounds_105 rfl) ?_
      refine gg_st (go_iload 5 d_X12_runRounds_108 rfl rfl) ?_
      refine gg_gd (fun h24 => ?_)
      refine gg_st (go_iald sM_43 h24 d_X12_runRounds_110 rfl) ?_
      refine gg_st (go_aload_n 0 d_X12_runRounds_111 rfl rfl rfl) ?_
      refine gg_st (go_aload_n 0 d_X12_runRounds_112 rfl rfl rfl) ?_
      refine gg_st (go_getR (j := 72) cf12 sM_0 rfl (by decide) fl_X12_146 d_X12_runRounds_113 rfl) ?_
      refine gg_st (go_iload 5 d_X12_runRounds_116 rfl rfl) ?_
      refine gg_gd (fun h25 => ?_)
      refine gg_st (go_iald sM_43 h25 d_X12_runRounds_118 rfl) ?_
      refine gv_I (k_X12_facing l w (g.1 (43) (ix v22)) g) cv_X12_374 sM_0 (Nat.le_of_ble_eq_true rfl) rfl rfl (Nat.le_of_ble_eq_true rfl) d_X12_runRounds_119 rfl (fun x26 => ?_)
      refine gv_IS (k_X12_doStep l w F (g.1 (43) (ix v22)) x26 g) cv_X12_427 sM_0 (Nat.le_of_ble_eq_true rfl) rfl rfl (Nat.le_of_ble_eq_true rfl) d_X12_runRounds_122 rfl (fun x27 => ?_)
      refine gg_st (go_istore_n 3 d_X12_runRounds_125 rfl (by decide) (L' := [some (.ref (0)), some (.int c1), some (.int v20), some (.int x27.1), some (.int c4), some (.int v22)]) rfl rfl) ?_
      refine gg_st (go_aload_n 0 d_X12_runRounds_126 rfl rfl rfl) ?_
      refine gg_st (go_iload_n 3 d_X12_runRounds_127 rfl rfl rfl) ?_
      refine gg_bind 136 (fun (t28 : Int32) => [some (.ref (0)), some (.int c1), some (.int v20), some (.int x27.1), some (.int c4), some (.int v22)]) (fun (t28 : Int32) => [.int t28, .ref (0)]) (fun (t28 : Int32) => x27.2) ?_ (fun t28 => ?_)
      · refine gg_br (br_if_eq (tgt := 135) (pc' := 131) d_X12_runRounds_128 (by decide) rfl) (fun h29 => ?_) (fun h29 => ?_)
        · refine gg_st (go_iconst d_X12_runRounds_135 ci_1 rfl) ?_
          exact gg_end rfl
        · refine gg_st (go_iconst d_X12_runRounds_131 ci_0 rfl) ?_
          refine gg_st (go_goto (pc' := 136) d_X12_runRounds_132 (by decide)) ?_
          exact gg_end rfl
      · refine gg_st (go_putI (j := 23) cf12 sM_0 rfl (by decide) rfl rfl fl_X12_398 d_X12_runRounds_136 rfl) ?_
        refine gg_som (fun s30 => ?_)
        refine gg_st (go_iload_n 2 d_X12_runRounds_139 rfl rfl rfl) ?_
        refine gg_st (go_iload_n 3 d_X12_runRounds_140 rfl rfl rfl) ?_
        refine gg_bind 149 (fun (t31 : Int32) => [some (.ref (0)), some (.int c1), none, some (.int x27.1), some (.int c4), some (.int v22)]) (fun (t31 : Int32) => [.int t31, .int v20]) (fun (t31 : Int32) => s30) ?_ (fun t31 => ?_)
        · refine gg_br (br_if_eq (tgt := 148) (pc' := 144) d_X12_runRounds_141 (by decide) rfl) (fun h32 => ?_) (fun h32 => ?_)
          · refine gg_st (go_iconst d_X12_runRounds_148 ci_0 rfl) ?_
            refine gg_st (go_fg [some (.ref (0)), some (.int c1), none, some (.int x27.1), some (.int c4), some (.int v22)] ⟨rfl, ⟨rfl, ⟨rfl, ⟨rfl, ⟨rfl, trivial⟩⟩⟩⟩⟩) ?_
            exact gg_end rfl
          · refine gg_st (go_iconst d_X12_runRounds_144 ci_1 rfl) ?_
            refine gg_st (go_goto (pc' := 149) d_X12_runRounds_145 (by decide)) ?_
            refine gg_st (go_fg [some (.ref (0)), some (.int c1), none, some (.int x27.1), some (.int c4), some (.int v22)] ⟨rfl, ⟨rfl, ⟨rfl, ⟨rfl, ⟨rfl, trivial⟩⟩⟩⟩⟩) ?_
            exact gg_end rfl
        · refine gg_st (go_iadd d_X12_runRounds_149 rfl) ?_
          refine gg_nm (fun _ => [some (.ref (0)), some (.int c1), none, some (.int x27.1), some (.int c4), some (.int v22)]) (fun (x33 : Int32) => [.int x33]) (fun x33 => ?_)
          refine gg_st (go_istore_n 2 d_X12_runRounds_150 rfl (by decide) (L' := [some (.ref (0)), some (.int c1), some (.int x33), some (.int x27.1), some (.int c4), some (.int v22)]) rfl rfl) ?_
          refine gg_st (go_iinc 5 d_X12_runRounds_151 rfl (v := v22 + (1 : Int32)) (by rw [ci_1]) (by decide) (L' := [some (.ref (0)), some (.int c1), some (.int x33), some (.int x27.1), some (.int c4), some (.int (v22 + (1 : Int32)))]) rfl rfl) ?_
          refine gg_st (go_goto (pc' := 87) d_X12_runRounds_154 (by decide)) ?_
          exact ih x33 x27.1 (v22 + (1 : Int32)) s30
    · refine gg_st (go_fg [some (.ref (0)), some (.int c1), some (.int v20), some (.int v21), none, none] ⟨rfl, ⟨rfl, ⟨rfl, ⟨rfl, trivial⟩⟩⟩⟩) ?_
      exact gg_end rfl
    refine gg_brs (br_icmp_ge (tgt := 157) (pc' := 94) d_X12_runRounds_91 (by decide) rfl) (fun h36 => ?_) (fun h36 => ?_)
    · refine gg_st (go_iload_n 3 d_X12_runRounds_94 rfl rfl rfl) ?_
      refine gg_brs (br_if_eq (tgt := 157) (pc' := 98) d_X12_runRounds_95 (by decide) rfl) (fun h37 => ?_) (fun h37 => ?_)
      · exact gg_eq (if_neg (fun z => (fun z => (fun z => z h37) z.1) z.2)) hB35
      · refine gg_st (go_iload_n 2 d_X12_runRounds_98 rfl rfl rfl) ?_
        refine gg_st (go_iload_n 1 d_X12_runRounds_99 rfl rfl rfl) ?_
        refine gg_brs (br_icmp_ge (tgt := 157) (pc' := 103) d_X12_runRounds_100 (by decide) rfl) (fun h38 => ?_) (fun h38 => ?_)
        · exact gg_eq (if_pos ⟨h36, ⟨h37, h38⟩⟩) hA34
        · exact gg_eq (if_neg (fun z => (fun z => h38 z.2) z.2)) hB35
    · exact gg_eq (if_neg (fun z => h36 z.1)) hB35
set_option maxRecDepth 20000 in
theorem g_f_X12_runRounds_L4 (l : Launch) (w : Wo) (F : Nat) (c1 : Int32) : ∀ (n : Nat) (v1 : Int32) (v2 : Int32) (g : St), GG l w shM m_X12_runRounds 4 4 [some (.ref (0)), some (.int c1), some (.int v1), some (.int v2), none, none] [] g (f_X12_runRounds_L4 F c1 n v1 v2 g) (fun (t : Int32 × St) => .inl (160, [none, none, some (.int t.1), none, none, none], [], t.2)) := by
  intro n
  induction n with
  | zero =>
    intro v1 v2 g
    exact gg_none
  | succ n ih =>
    intro v1 v2 g
    rw [f_X12_runRounds_L4]
    refine gg_st (go_iload_n 3 d_X12_runRounds_4 rfl rfl rfl) ?_
    refine gg_two (c := (v2 = 0) ∨ (¬ (v1 < c1))) (pA := 160) (pB := 13) (LL := [some (.ref (0)), some (.int c1), some (.int v1), some (.int v2), none, none]) (ss := []) ?_ ?_ (fun hA40 hB41 => ?_)
    · refine gg_st (go_fg [none, none, some (.int v1), none, none, none] ⟨rfl, trivial⟩) ?_
      exact gg_end rfl
    · refine gg_st (go_iconst d_X12_runRounds_13 ci_0 rfl) ?_
      refine gg_st (go_istore 4 d_X12_runRounds_14 (by decide) (L' := [some (.ref (0)), some (.int c1), some (.int v1), some (.int v2), some (.int (0 : Int32)), none]) rfl rfl) ?_
      refine gg_st (go_iconst d_X12_runRounds_16 ci_0 rfl) ?_
      refine gg_st (go_istore 5 d_X12_runRounds_17 (by decide) (L' := [some (.ref (0)), some (.int c1), some (.int v1), some (.int v2), some (.int (0 : Int32)), some (.int (0 : Int32))]) rfl rfl) ?_
      refine gg_st (go_fg [some (.ref (0)), some (.int c1), some (.int v1), none, some (.int (0 : Int32)), some (.int (0 : Int32))] ⟨rfl, ⟨rfl, ⟨rfl, ⟨rfl, ⟨rfl, trivial⟩⟩⟩⟩⟩) ?_
      refine gg_bind 55 (fun (t14 : Int32 × St) => [some (.ref (0)), some (.int c1), some (.int v1), none, some (.int t14.1), none]) (fun (t14 : Int32 × St) => []) (fun (t14 : Int32 × St) => t14.2) (g_f_X12_runRounds_L19 l w F c1 v1 F (0 : Int32) (0 : Int32) g) (fun t14 => ?_)
      refine gg_st (go_iload 4 d_X12_runRounds_55 rfl rfl) ?_
      refine gg_bind 65 (fun (t15 : Int32) => [some (.ref (0)), some (.int c1), some (.int v1), none, some (.int t14.1), none]) (fun (t15 : Int32) => [.int t15]) (fun (t15 : Int32) => t14.2) ?_ (fun t15 => ?_)
      · refine gg_br (br_if_le (tgt := 64) (pc' := 60) d_X12_runRounds_57 (by decide) rfl) (fun h16 => ?_) (fun h16 => ?_)
        · refine gg_st (go_iconst d_X12_runRounds_60 ci_1 rfl) ?_
          refine gg_st (go_goto (pc' := 65) d_X12_runRounds_61 (by decide)) ?_
          exact gg_end rfl
        · refine gg_st (go_iconst d_X12_runRounds_64 ci_0 rfl) ?_
          exact gg_end rfl
      · refine gg_st (go_istore_n 3 d_X12_runRounds_65 rfl (by decide) (L' := [some (.ref (0)), some (.int c1), some (.int v1), some (.int t15), some (.int t14.1), none]) rfl rfl) ?_
        refine gg_st (go_aload_n 0 d_X12_runRounds_66 rfl rfl rfl) ?_
        refine gg_st (go_dup d_X12_runRounds_67 rfl rfl) ?_
        refine gg_st (go_getI (j := 22) cf12 sM_0 rfl (by decide) fl_X12_366 d_X12_runRounds_68 rfl) ?_
        refine gg_st (go_iload_n 3 d_X12_runRounds_71 rfl rfl rfl) ?_
        refine gg_bind 80 (fun (t17 : Int32) => [some (.ref (0)), some (.int c1), some (.int v1), some (.int t15), some (.int t14.1), none]) (fun (t17 : Int32) => [.int t17, .int (t14.2.1 (0) 22), .ref (0)]) (fun (t17 : Int32) => t14.2) ?_ (fun t17 => ?_)
        · refine gg_br (br_if_eq (tgt := 79) (pc' := 75) d_X12_runRounds_72 (by decide) rfl) (fun h18 => ?_) (fun h18 => ?_)
          · refine gg_st (go_iconst d_X12_runRounds_79 ci_0 rfl) ?_
            exact gg_end rfl
          · refine gg_st (go_iconst d_X12_runRounds_75 ci_1 rfl) ?_
            refine gg_st (go_goto (pc' := 80) d_X12_runRounds_76 (by decide)) ?_
            exact gg_end rfl
        · refine gg_st (go_iadd d_X12_runRounds_80 rfl) ?_
          refine gg_st (go_putI (j := 22) cf12 sM_0 rfl (by decide) rfl rfl fl_X12_366 d_X12_runRounds_81 rfl) ?_
          refine gg_som (fun s19 => ?_)
          refine gg_st (go_iconst d_X12_runRounds_84 ci_0 rfl) ?_
          refine gg_st (go_istore 5 d_X12_runRounds_85 (by decide) (L' := [some (.ref (0)), some (.int c1), some (.int v1), some (.int t15), some (.int t14.1), some (.int (0 : Int32))]) rfl rfl) ?_
          refine gg_bind 157 (fun (t39 : Int32 × Int32 × St) => [some (.ref (0)), some (.int c1), some (.int t39.1), some (.int t39.2.1), none, none]) (fun (t39 : Int32 × Int32 × St) => []) (fun (t39 : Int32 × Int32 × St) => t39.2.2) (g_f_X12_runRounds_L87 l w F c1 t14.1 F v1 t15 (0 : Int32) s19) (fun t39 => ?_)
          refine gg_st (go_goto (pc' := 4) d_X12_runRounds_157 (by decide)) ?_
          exact ih t39.1 t39.2.1 t39.2.2
    refine gg_brs (br_if_eq (tgt := 160) (pc' := 8) d_X12_runRounds_5 (by decide) rfl) (fun h42 => ?_) (fun h42 => ?_)
    · exact gg_eq (if_pos (Or.inl h42)) hA40
    · refine gg_st (go_iload_n 2 d_X12_runRounds_8 rfl rfl rfl) ?_
      refine gg_st (go_iload_n 1 d_X12_runRounds_9 rfl rfl rfl) ?_
      refine gg_brs (br_icmp_ge (tgt := 160) (pc' := 13) d_X12_runRounds_10 (by decide) rfl) (fun h43 => ?_) (fun h43 => ?_)
      · exact gg_eq (if_neg (fun z => z.elim h42 (fun z => z h43))) hB41
      · exact gg_eq (if_pos (Or.inr h43)) hA40
set_option maxRecDepth 20000 in
theorem k_X12_runRounds (l : Launch) (w : Wo) (F : Nat) (p1 : Int32) (σ : St) : K l w shM m_X12_runRounds 4 [.ref (0), .int p1] σ (f_X12_runRounds F p1 σ) (rIS) := by
  refine k_of (L := [some (.ref (0)), some (.int p1), none, none, none, none]) (plainFor_of_name (by decide +kernel)) 4 rfl (Nat.le_of_ble_eq_true rfl) ?_
  unfold f_X12_runRounds
  refine gg_st (go_iconst d_X12_runRounds_0 ci_0 rfl) ?_
  refine gg_st (go_istore_n 2 d_X12_runRounds_1 rfl (by decide) (L' := [some (.ref (0)), some (.int p1), some (.int (0 : Int32)), none, none, none]) rfl rfl) ?_
  refine gg_st (go_iconst d_X12_runRounds_2 ci_1 rfl) ?_
  refine gg_st (go_istore_n 3 d_X12_runRounds_3 rfl (by decide) (L' := [some (.ref (0)), some (.int p1), some (.int (0 : Int32)), some (.int (1 : Int32)), none, none]) rfl rfl) ?_
  refine gg_bind 160 (fun (t44 : Int32 × St) => [none, none, some (.int t44.1), none, none, none]) (fun (t44 : Int32 × St) => []) (fun (t44 : Int32 × St) => t44.2) (g_f_X12_runRounds_L4 l w F p1 F (0 : Int32) (1 : Int32) σ) (fun t44 => ?_)
  refine gg_st (go_iload_n 2 d_X12_runRounds_160 rfl rfl rfl) ?_
  exact gg_iret rfl d_X12_runRounds_161 rfl
def f_X12_run_L49 (F : Nat) (c1 : Int32) (c2 : Int32) : Nat → Int32 → Int32 → St → Option (Int32 × St)
  | 0, _, _, _ => none
  | n + 1, v6, v7, g =>
    if (v7 = 0) ∨ (¬ (v6 < c2)) then (
      some (v6, g))
    else (
      Option.bind (f_X12_chosen F c1 g) fun x8 =>
      Option.bind (
        Option.bind (some (fun (t10 : St) =>
          some ((0 : Int32), t10))) fun jp11 =>
        if 0 ≤ x8.1 then (
          Option.bind (f_X12_facing x8.1 x8.2) fun x13 =>
          Option.bind (f_X12_doStep F x8.1 x13 x8.2) fun x14 =>
          if x14.1 = 0 then (
            jp11 x14.2)
          else (
            some ((1 : Int32), x14.2)))
        else (
          jp11 x8.2)) fun t9 =>
      Option.bind (
        if (0 ≤ x8.1) ∧ (t9.1 = 0) then (
          some (1 : Int32))
        else (
          some (0 : Int32))) fun t16 =>
      Option.bind (some (seti t9.2 (0) 23 t16)) fun s21 =>
      Option.bind (
        if t9.1 = 0 then (
          some (0 : Int32))
        else (
          some (1 : Int32))) fun t22 =>
      Option.bind (some (v6 + t22)) fun x24 =>
      f_X12_run_L49 F c1 c2 n x24 t9.1 s21)
def f_X12_run (F : Nat) (p1 : Int32) (p2 : Int32) (σ : St) : Option (Int32 × St) :=
  Option.bind (some (f_X12_in (p1.toInt64) (0 : Int64) (3 : Int64))) fun x1 =>
  if (x1 = 0) ∨ ((f_X12_in (p2.toInt64) (0 : Int64) (3000 : Int64)) = 0) then (
    some ((-1002 : Int32), σ))
  else (
    Option.bind (some (seti σ (0) 23 (0 : Int32))) fun s3 =>
    if p1 = (2 : Int32) then (
      Option.bind (f_X12_runRounds F p2 s3) fun x5 =>
      some (x5.1, x5.2))
    else (
      Option.bind (f_X12_run_L49 F p1 p2 F (0 : Int32) (1 : Int32) s3) fun t29 =>
      some (t29.1, t29.2)))
set_option maxRecDepth 20000 in
theorem g_f_X12_run_L49 (l : Launch) (w : Wo) (F : Nat) (c1 : Int32) (c2 : Int32) : ∀ (n : Nat) (v6 : Int32) (v7 : Int32) (g : St), GG l w shM m_X12_run 5 49 [some (.ref (0)), some (.int c1), some (.int c2), some (.int v6), some (.int v7), none] [] g (f_X12_run_L49 F c1 c2 n v6 v7 g) (fun (t : Int32 × St) => .inl (128, [none, none, none, some (.int t.1), none, none], [], t.2)) := by
  intro n
  induction n with
  | zero =>
    intro v6 v7 g
    exact gg_none
  | succ n ih =>
    intro v6 v7 g
    rw [f_X12_run_L49]
    refine gg_st (go_iload 4 d_X12_run_49 rfl rfl) ?_
    refine gg_two (c := (v7 = 0) ∨ (¬ (v6 < c2))) (pA := 128) (pB := 59) (LL := [some (.ref (0)), some (.int c1), some (.int c2), some (.int v6), some (.int v7), none]) (ss := []) ?_ ?_ (fun hA25 hB26 => ?_)
    · refine gg_st (go_fg [none, none, none, some (.int v6), none, none] ⟨rfl, trivial⟩) ?_
      exact gg_end rfl
    · refine gg_st (go_aload_n 0 d_X12_run_59 rfl rfl rfl) ?_
      refine gg_st (go_iload_n 1 d_X12_run_60 rfl rfl rfl) ?_
      refine gv_IS (k_X12_chosen l w F c1 g) cv_X12_444 sM_0 (Nat.le_of_ble_eq_true rfl) rfl rfl (Nat.le_of_ble_eq_true rfl) d_X12_run_61 rfl (fun x8 => ?_)
      refine gg_st (go_istore 5 d_X12_run_64 (by decide) (L' := [some (.ref (0)), some (.int c1), some (.int c2), some (.int v6), some (.int v7), some (.int x8.1)]) rfl rfl) ?_
      refine gg_st (go_iload 5 d_X12_run_66 rfl rfl) ?_
      refine gg_bind 91 (fun (t9 : Int32 × St) => [some (.ref (0)), some (.int c1), some (.int c2), some (.int v6), none, some (.int x8.1)]) (fun (t9 : Int32 × St) => [.int t9.1]) (fun (t9 : Int32 × St) => t9.2) ?_ (fun t9 => ?_)
      · refine gg_jp 90 (fun (t10 : St) => [some (.ref (0)), some (.int c1), some (.int c2), some (.int v6), none, some (.int x8.1)]) (fun (t10 : St) => []) (fun (t10 : St) => t10) (fun t10 => ?_) (fun jp11 hjp11 => ?_)
        · refine gg_st (go_iconst d_X12_run_90 ci_0 rfl) ?_
          exact gg_end rfl
        refine gg_br (br_if_lt (tgt := 90) (pc' := 71) d_X12_run_68 (by decide) rfl) (fun h12 => ?_) (fun h12 => ?_)
        · refine gg_st (go_aload_n 0 d_X12_run_71 rfl rfl rfl) ?_
          refine gg_st (go_iload 5 d_X12_run_72 rfl rfl) ?_
          refine gg_st (go_aload_n 0 d_X12_run_74 rfl rfl rfl) ?_
          refine gg_st (go_iload 5 d_X12_run_75 rfl rfl) ?_
          refine gv_I (k_X12_facing l w x8.1 x8.2) cv_X12_374 sM_0 (Nat.le_of_ble_eq_true rfl) rfl rfl (Nat.le_of_ble_eq_true rfl) d_X12_run_77 rfl (fun x13 => ?_)
          refine gv_IS (k_X12_doStep l w F x8.1 x13 x8.2) cv_X12_427 sM_0 (Nat.le_of_ble_eq_true rfl) rfl rfl (Nat.le_of_ble_eq_true rfl) d_X12_run_80 rfl (fun x14 => ?_)
          refine gg_br (br_if_eq (tgt := 90) (pc' := 86) d_X12_run_83 (by decide) rfl) (fun h15 => ?_) (fun h15 => ?_)
          · refine gg_st (go_fg [some (.ref (0)), some (.int c1), some (.int c2), some (.int v6), none, some (.int x8.1)] ⟨rfl, ⟨rfl, ⟨rfl, ⟨rfl, ⟨rfl, trivial⟩⟩⟩⟩⟩) ?_
            exact hjp11 x14.2
          · refine gg_st (go_iconst d_X12_run_86 ci_1 rfl) ?_
            refine gg_st (go_goto (pc' := 91) d_X12_run_87 (by decide)) ?_
            refine gg_st (go_fg [some (.ref (0)), some (.int c1), some (.int c2), some (.int v6), none, some (.int x8.1)] ⟨rfl, ⟨rfl, ⟨rfl, ⟨rfl, ⟨rfl, trivial⟩⟩⟩⟩⟩) ?_
            exact gg_end rfl
        · refine gg_st (go_fg [some (.ref (0)), some (.int c1), some (.int c2), some (.int v6), none, some (.int x8.1)] ⟨rfl, ⟨rfl, ⟨rfl, ⟨rfl, ⟨rfl, trivial⟩⟩⟩⟩⟩) ?_
          exact hjp11 x8.2
      · refine gg_st (go_istore 4 d_X12_run_91 (by decide) (L' := [some (.ref (0)), some (.int c1), some (.int c2), some (.int v6), some (.int t9.1), some (.int x8.1)]) rfl rfl) ?_
        refine gg_st (go_aload_n 0 d_X12_run_93 rfl rfl rfl) ?_
        refine gg_st (go_iload 5 d_X12_run_94 rfl rfl) ?_
        refine gg_bind 109 (fun (t16 : Int32) => [some (.ref (0)), some (.int c1), some (.int c2), some (.int v6), some (.int t9.1), none]) (fun (t16 : Int32) => [.int t16, .ref (0)]) (fun (t16 : Int32) => t9.2) ?_ (fun t16 => ?_)
        · refine gg_two (c := (0 ≤ x8.1) ∧ (t9.1 = 0)) (pA := 104) (pB := 108) (LL := [some (.ref (0)), some (.int c1), some (.int c2), some (.int v6), some (.int t9.1), some (.int x8.1)]) (ss := [.ref (0)]) ?_ ?_ (fun hA17 hB18 => ?_)
          · refine gg_st (go_iconst d_X12_run_104 ci_1 rfl) ?_
            refine gg_st (go_goto (pc' := 109) d_X12_run_105 (by decide)) ?_
            refine gg_st (go_fg [some (.ref (0)), some (.int c1), some (.int c2), some (.int v6), some (.int t9.1), none] ⟨rfl, ⟨rfl, ⟨rfl, ⟨rfl, ⟨rfl, trivial⟩⟩⟩⟩⟩) ?_
            exact gg_end rfl
          · refine gg_st (go_iconst d_X12_run_108 ci_0 rfl) ?_
            refine gg_st (go_fg [some (.ref (0)), some (.int c1), some (.int c2), some (.int v6), some (.int t9.1), none] ⟨rfl, ⟨rfl, ⟨rfl, ⟨rfl, ⟨rfl, trivial⟩⟩⟩⟩⟩) ?_
            exact gg_end rfl
          refine gg_brs (br_if_lt (tgt := 108) (pc' := 99) d_X12_run_96 (by decide) rfl) (fun h19 => ?_) (fun h19 => ?_)
          · refine gg_st (go_iload 4 d_X12_run_99 rfl rfl) ?_
            refine gg_brs (br_if_ne (tgt := 108) (pc' := 104) d_X12_run_101 (by decide) rfl) (fun h20 => ?_) (fun h20 => ?_)
            · exact gg_eq (if_pos ⟨h19, h20⟩) hA17
            · exact gg_eq (if_neg (fun z => h20 z.2)) hB18
          · exact gg_eq (if_neg (fun z => h19 z.1)) hB18
        · refine gg_st (go_putI (j := 23) cf12 sM_0 rfl (by decide) rfl rfl fl_X12_398 d_X12_run_109 rfl) ?_
          refine gg_som (fun s21 => ?_)
          refine gg_st (go_iload_n 3 d_X12_run_112 rfl rfl rfl) ?_
          refine gg_st (go_iload 4 d_X12_run_113 rfl rfl) ?_
          refine gg_bind 123 (fun (t22 : Int32) => [some (.ref (0)), some (.int c1), some (.int c2), none, some (.int t9.1), none]) (fun (t22 : Int32) => [.int t22, .int v6]) (fun (t22 : Int32) => s21) ?_ (fun t22 => ?_)
          · refine gg_br (br_if_eq (tgt := 122) (pc' := 118) d_X12_run_115 (by decide) rfl) (fun h23 => ?_) (fun h23 => ?_)
            · refine gg_st (go_iconst d_X12_run_122 ci_0 rfl) ?_
              refine gg_st (go_fg [some (.ref (0)), some (.int c1), some (.int c2), none, some (.int t9.1), none] ⟨rfl, ⟨rfl, ⟨rfl, ⟨rfl, trivial⟩⟩⟩⟩) ?_
              exact gg_end rfl
            · refine gg_st (go_iconst d_X12_run_118 ci_1 rfl) ?_
              refine gg_st (go_goto (pc' := 123) d_X12_run_119 (by decide)) ?_
              refine gg_st (go_fg [some (.ref (0)), some (.int c1), some (.int c2), none, some (.int t9.1), none] ⟨rfl, ⟨rfl, ⟨rfl, ⟨rfl, trivial⟩⟩⟩⟩) ?_
              exact gg_end rfl
          · refine gg_st (go_iadd d_X12_run_123 rfl) ?_
            refine gg_nm (fun _ => [some (.ref (0)), some (.int c1), some (.int c2), none, some (.int t9.1), none]) (fun (x24 : Int32) => [.int x24]) (fun x24 => ?_)
            refine gg_st (go_istore_n 3 d_X12_run_124 rfl (by decide) (L' := [some (.ref (0)), some (.int c1), some (.int c2), some (.int x24), some (.int t9.1), none]) rfl rfl) ?_
            refine gg_st (go_goto (pc' := 49) d_X12_run_125 (by decide)) ?_
            exact ih x24 t9.1 s21
    refine gg_brs (br_if_eq (tgt := 128) (pc' := 54) d_X12_run_51 (by decide) rfl) (fun h27 => ?_) (fun h27 => ?_)
    · exact gg_eq (if_pos (Or.inl h27)) hA25
    · refine gg_st (go_iload_n 3 d_X12_run_54 rfl rfl rfl) ?_
      refine gg_st (go_iload_n 2 d_X12_run_55 rfl rfl rfl) ?_
      refine gg_brs (br_icmp_ge (tgt := 128) (pc' := 59) d_X12_run_56 (by decide) rfl) (fun h28 => ?_) (fun h28 => ?_)
      · exact gg_eq (if_neg (fun z => z.elim h27 (fun z => z h28))) hB26
      · exact gg_eq (if_pos (Or.inr h28)) hA25
set_option maxRecDepth 20000 in
theorem k_X12_run (l : Launch) (w : Wo) (F : Nat) (p1 : Int32) (p2 : Int32) (σ : St) : K l w shM m_X12_run 5 [.ref (0), .int p1, .int p2] σ (f_X12_run F p1 p2 σ) (rIS) := by
  refine k_of (L := [some (.ref (0)), some (.int p1), some (.int p2), none, none, none]) (plainFor_of_name (by decide +kernel)) 3 rfl (Nat.le_of_ble_eq_true rfl) ?_
  unfold f_X12_run
  refine gg_st (go_iload_n 1 d_X12_run_0 rfl rfl rfl) ?_
  refine gg_st (go_i2l d_X12_run_1 rfl) ?_
  refine gg_st (go_lconst d_X12_run_2 (v := (0 : Int64)) (by decide) rfl) ?_
  refine gg_st (go_ldc2 ll_X12_437 d_X12_run_3 rfl) ?_
  refine gs_I (k_X12_in l w (p1.toInt64) (0 : Int64) (3 : Int64) σ) cs_X12_191 (Nat.le_of_ble_eq_true rfl) rfl rfl (Nat.le_of_ble_eq_true rfl) d_X12_run_6 rfl (fun x1 => ?_)
  refine gg_two (c := (x1 = 0) ∨ ((f_X12_in (p2.toInt64) (0 : Int64) (3000 : Int64)) = 0)) (pA := 24) (pB := 28) (LL := [some (.ref (0)), some (.int p1), some (.int p2), none, none, none]) (ss := []) ?_ ?_ (fun hA30 hB31 => ?_)
  · refine gg_st (go_sipush d_X12_run_24 cs_m1002 rfl) ?_
    exact gg_iret rfl d_X12_run_27 rfl
  · refine gg_st (go_aload_n 0 d_X12_run_28 rfl rfl rfl) ?_
    refine gg_st (go_iconst d_X12_run_29 ci_0 rfl) ?_
    refine gg_st (go_putI (j := 23) cf12 sM_0 rfl (by decide) rfl rfl fl_X12_398 d_X12_run_30 rfl) ?_
    refine gg_som (fun s3 => ?_)
    refine gg_st (go_iload_n 1 d_X12_run_33 rfl rfl rfl) ?_
    refine gg_st (go_iconst d_X12_run_34 ci_2 rfl) ?_
    refine gg_br (br_icmp_ne (tgt := 44) (pc' := 38) d_X12_run_35 (by decide) rfl) (fun h4 => ?_) (fun h4 => ?_)
    · refine gg_st (go_aload_n 0 d_X12_run_38 rfl rfl rfl) ?_
      refine gg_st (go_iload_n 2 d_X12_run_39 rfl rfl rfl) ?_
      refine gv_IS (k_X12_runRounds l w F p2 s3) cv_X12_441 sM_0 (Nat.le_of_ble_eq_true rfl) rfl rfl (Nat.le_of_ble_eq_true rfl) d_X12_run_40 rfl (fun x5 => ?_)
      exact gg_iret rfl d_X12_run_43 rfl
    · refine gg_st (go_iconst d_X12_run_44 ci_0 rfl) ?_
      refine gg_st (go_istore_n 3 d_X12_run_45 rfl (by decide) (L' := [some (.ref (0)), some (.int p1), some (.int p2), some (.int (0 : Int32)), none, none]) rfl rfl) ?_
      refine gg_st (go_iconst d_X12_run_46 ci_1 rfl) ?_
      refine gg_st (go_istore 4 d_X12_run_47 (by decide) (L' := [some (.ref (0)), some (.int p1), some (.int p2), some (.int (0 : Int32)), some (.int (1 : Int32)), none]) rfl rfl) ?_
      refine gg_bind 128 (fun (t29 : Int32 × St) => [none, none, none, some (.int t29.1), none, none]) (fun (t29 : Int32 × St) => []) (fun (t29 : Int32 × St) => t29.2) (g_f_X12_run_L49 l w F p1 p2 F (0 : Int32) (1 : Int32) s3) (fun t29 => ?_)
      refine gg_st (go_iload_n 3 d_X12_run_128 rfl rfl rfl) ?_
      exact gg_iret rfl d_X12_run_129 rfl
  refine gg_brs (br_if_eq (tgt := 24) (pc' := 12) d_X12_run_9 (by decide) rfl) (fun h32 => ?_) (fun h32 => ?_)
  · exact gg_eq (if_pos (Or.inl h32)) hA30
  · refine gg_st (go_iload_n 2 d_X12_run_12 rfl rfl rfl) ?_
    refine gg_st (go_i2l d_X12_run_13 rfl) ?_
    refine gg_st (go_lconst d_X12_run_14 (v := (0 : Int64)) (by decide) rfl) ?_
    refine gg_st (go_ldc2 ll_X12_439 d_X12_run_15 rfl) ?_
    refine gg_st (go_sI (k_X12_in l w (p2.toInt64) (0 : Int64) (3000 : Int64) σ) cs_X12_191 (Nat.le_of_ble_eq_true rfl) rfl rfl (Nat.le_of_ble_eq_true rfl) d_X12_run_18 rfl) ?_
    refine gg_brs (br_if_ne (tgt := 28) (pc' := 24) d_X12_run_21 (by decide) rfl) (fun h33 => ?_) (fun h33 => ?_)
    · exact gg_eq (if_pos (Or.inr h33)) hA30
    · exact gg_eq (if_neg (fun z => z.elim h32 h33)) hB31
def f_X12_step (F : Nat) (p1 : Int32) (σ : St) : Option (Int32 × St) :=
  Option.bind (f_X12_isAgent p1 σ) fun x1 =>
  if x1 = 0 then (
    some ((-1001 : Int32), σ))
  else (
    Option.bind (f_X12_facing p1 σ) fun x3 =>
    if 0 ≤ x3 then (
      Option.bind (f_X12_ruleFor p1 x3 σ) fun x5 =>
      if x5 < 0 then (
        some ((-1003 : Int32), σ))
      else (
        Option.bind (f_X12_doStep F p1 x3 σ) fun x7 =>
        if x7.1 = 0 then (
          some ((0 : Int32), x7.2))
        else (
          some ((1 : Int32), x7.2))))
    else (
      some ((-1003 : Int32), σ)))
set_option maxRecDepth 20000 in
theorem k_X12_step (l : Launch) (w : Wo) (F : Nat) (p1 : Int32) (σ : St) : K l w shM m_X12_step 4 [.ref (0), .int p1] σ (f_X12_step F p1 σ) (rIS) := by
  refine k_of (L := [some (.ref (0)), some (.int p1), none]) (plainFor_of_name (by decide +kernel)) 1 rfl (Nat.le_of_ble_eq_true rfl) ?_
  unfold f_X12_step
  refine gg_st (go_aload_n 0 d_X12_step_0 rfl rfl rfl) ?_
  refine gg_st (go_iload_n 1 d_X12_step_1 rfl rfl rfl) ?_
  refine gv_I (k_X12_isAgent l w p1 σ) cv_X12_406 sM_0 (Nat.le_of_ble_eq_true rfl) rfl rfl (Nat.le_of_ble_eq_true rfl) d_X12_step_2 rfl (fun x1 => ?_)
  refine gg_br (br_if_ne (tgt := 12) (pc' := 8) d_X12_step_5 (by decide) rfl) (fun h2 => ?_) (fun h2 => ?_)
  · refine gg_st (go_sipush d_X12_step_8 cs_m1001 rfl) ?_
    exact gg_iret rfl d_X12_step_11 rfl
  · refine gg_st (go_aload_n 0 d_X12_step_12 rfl rfl rfl) ?_
    refine gg_st (go_iload_n 1 d_X12_step_13 rfl rfl rfl) ?_
    refine gv_I (k_X12_facing l w p1 σ) cv_X12_374 sM_0 (Nat.le_of_ble_eq_true rfl) rfl rfl (Nat.le_of_ble_eq_true rfl) d_X12_step_14 rfl (fun x3 => ?_)
    refine gg_st (go_istore_n 2 d_X12_step_17 rfl (by decide) (L' := [some (.ref (0)), some (.int p1), some (.int x3)]) rfl rfl) ?_
    refine gg_st (go_iload_n 2 d_X12_step_18 rfl rfl rfl) ?_
    refine gg_br (br_if_lt (tgt := 31) (pc' := 22) d_X12_step_19 (by decide) rfl) (fun h4 => ?_) (fun h4 => ?_)
    · refine gg_st (go_aload_n 0 d_X12_step_22 rfl rfl rfl) ?_
      refine gg_st (go_iload_n 1 d_X12_step_23 rfl rfl rfl) ?_
      refine gg_st (go_iload_n 2 d_X12_step_24 rfl rfl rfl) ?_
      refine gv_I (k_X12_ruleFor l w p1 x3 σ) cv_X12_377 sM_0 (Nat.le_of_ble_eq_true rfl) rfl rfl (Nat.le_of_ble_eq_true rfl) d_X12_step_25 rfl (fun x5 => ?_)
      refine gg_br (br_if_ge (tgt := 35) (pc' := 31) d_X12_step_28 (by decide) rfl) (fun h6 => ?_) (fun h6 => ?_)
      · refine gg_st (go_sipush d_X12_step_31 cs_m1003 rfl) ?_
        exact gg_iret rfl d_X12_step_34 rfl
      · refine gg_st (go_aload_n 0 d_X12_step_35 rfl rfl rfl) ?_
        refine gg_st (go_iload_n 1 d_X12_step_36 rfl rfl rfl) ?_
        refine gg_st (go_iload_n 2 d_X12_step_37 rfl rfl rfl) ?_
        refine gv_IS (k_X12_doStep l w F p1 x3 σ) cv_X12_427 sM_0 (Nat.le_of_ble_eq_true rfl) rfl rfl (Nat.le_of_ble_eq_true rfl) d_X12_step_38 rfl (fun x7 => ?_)
        refine gg_br (br_if_eq (tgt := 48) (pc' := 44) d_X12_step_41 (by decide) rfl) (fun h8 => ?_) (fun h8 => ?_)
        · refine gg_st (go_iconst d_X12_step_48 ci_0 rfl) ?_
          exact gg_iret rfl d_X12_step_49 rfl
        · refine gg_st (go_iconst d_X12_step_44 ci_1 rfl) ?_
          refine gg_st (go_goto (pc' := 49) d_X12_step_45 (by decide)) ?_
          exact gg_iret rfl d_X12_step_49 rfl
    · refine gg_st (go_sipush d_X12_step_31 cs_m1003 rfl) ?_
      exact gg_iret rfl d_X12_step_34 rfl
def f_X12_trace (p1 : Int32) (σ : St) : Option (Int32) :=
  Option.bind (
    if (σ.1 (0) 26) < (50 : Int32) then (
      some (σ.1 (0) 26))
    else (
      some (50 : Int32))) fun t1 =>
  Option.bind (some (f_X12_in (p1.toInt64) (0 : Int64) ((t1 - (1 : Int32)).toInt64))) fun x3 =>
  if x3 = 0 then (
    some (-1 : Int32))
  else (
    if inb ((((σ.1 (0) 26) - (1 : Int32)) - p1) - (((σ.1 (0) 26) - (1 : Int32)) - p1) / (50 : Int32) * (50 : Int32)) 50 then (
      some (σ.1 (15) (ix ((((σ.1 (0) 26) - (1 : Int32)) - p1) - (((σ.1 (0) 26) - (1 : Int32)) - p1) / (50 : Int32) * (50 : Int32)))))
    else none)
set_option maxRecDepth 20000 in
theorem k_X12_trace (l : Launch) (w : Wo) (p1 : Int32) (σ : St) : K l w shM m_X12_trace 2 [.ref (0), .int p1] σ (f_X12_trace p1 σ) (rI σ) := by
  refine k_of (L := [some (.ref (0)), some (.int p1)]) (plainFor_of_name (by decide +kernel)) 0 rfl (Nat.le_of_ble_eq_true rfl) ?_
  unfold f_X12_trace
  refine gg_st (go_iload_n 1 d_X12_trace_0 rfl rfl rfl) ?_
  refine gg_st (go_i2l d_X12_trace_1 rfl) ?_
  refine gg_st (go_lconst d_X12_trace_2 (v := (0 : Int64)) (by decide) rfl) ?_
  refine gg_st (go_aload_n 0 d_X12_trace_3 rfl rfl rfl) ?_
  refine gg_st (go_getI (j := 26) cf12 sM_0 rfl (by decide) fl_X12_369 d_X12_trace_4 rfl) ?_
  refine gg_st (go_bipush d_X12_trace_7 cb_50 rfl) ?_
  refine gg_bind 21 (fun (t1 : Int32) => [some (.ref (0)), some (.int p1)]) (fun (t1 : Int32) => [.int t1, .long (0 : Int64), .long (p1.toInt64)]) (fun (t1 : Int32) => σ) ?_ (fun t1 => ?_)
  · refine gg_br (br_icmp_ge (tgt := 19) (pc' := 12) d_X12_trace_9 (by decide) rfl) (fun h2 => ?_) (fun h2 => ?_)
    · refine gg_st (go_aload_n 0 d_X12_trace_12 rfl rfl rfl) ?_
      refine gg_st (go_getI (j := 26) cf12 sM_0 rfl (by decide) fl_X12_369 d_X12_trace_13 rfl) ?_
      refine gg_st (go_goto (pc' := 21) d_X12_trace_16 (by decide)) ?_
      exact gg_end rfl
    · refine gg_st (go_bipush d_X12_trace_19 cb_50 rfl) ?_
      exact gg_end rfl
  · refine gg_st (go_iconst d_X12_trace_21 ci_1 rfl) ?_
    refine gg_st (go_isub d_X12_trace_22 rfl) ?_
    refine gg_st (go_i2l d_X12_trace_23 rfl) ?_
    refine gs_I (k_X12_in l w (p1.toInt64) (0 : Int64) ((t1 - (1 : Int32)).toInt64) σ) cs_X12_191 (Nat.le_of_ble_eq_true rfl) rfl rfl (Nat.le_of_ble_eq_true rfl) d_X12_trace_24 rfl (fun x3 => ?_)
    refine gg_br (br_if_eq (tgt := 49) (pc' := 30) d_X12_trace_27 (by decide) rfl) (fun h5 => ?_) (fun h5 => ?_)
    · refine gg_st (go_iconst d_X12_trace_49 ci_m1 rfl) ?_
      exact gg_iret rfl d_X12_trace_50 rfl
    · refine gg_st (go_aload_n 0 d_X12_trace_30 rfl rfl rfl) ?_
      refine gg_st (go_getR (j := 25) cf12 sM_0 rfl (by decide) fl_X12_62 d_X12_trace_31 rfl) ?_
      refine gg_st (go_aload_n 0 d_X12_trace_34 rfl rfl rfl) ?_
      refine gg_st (go_getI (j := 26) cf12 sM_0 rfl (by decide) fl_X12_369 d_X12_trace_35 rfl) ?_
      refine gg_st (go_iconst d_X12_trace_38 ci_1 rfl) ?_
      refine gg_st (go_isub d_X12_trace_39 rfl) ?_
      refine gg_st (go_iload_n 1 d_X12_trace_40 rfl rfl rfl) ?_
      refine gg_st (go_isub d_X12_trace_41 rfl) ?_
      refine gg_st (go_bipush d_X12_trace_42 cb_50 rfl) ?_
      refine gg_st (go_irem d_X12_trace_44 (by decide) rfl) ?_
      refine gg_gd (fun h6 => ?_)
      refine gg_st (go_iald sM_15 h6 d_X12_trace_45 rfl) ?_
      refine gg_st (go_goto (pc' := 50) d_X12_trace_46 (by decide)) ?_
      exact gg_iret rfl d_X12_trace_50 rfl
def f_X12_wired (p1 : Int32) (p2 : Int32) (σ : St) : Option (Int32) :=
  Option.bind (f_X12_isAgent p1 σ) fun x1 =>
  if x1 = 0 then (
    some (-1001 : Int32))
  else (
    if inb p1 400 then (
      if inb (σ.1 (12) (ix p1)) 16 then (
        Option.bind (some (f_X12_in (p2.toInt64) (0 : Int64) (((σ.1 (3) (ix (σ.1 (12) (ix p1)))) - (1 : Int32)).toInt64))) fun x6 =>
        if x6 = 0 then (
          some (-1002 : Int32))
        else (
          if inb (((5 : Int32) * p1) + p2) 2000 then (
            Option.bind (f_X12_asTold (σ.1 (13) (ix (((5 : Int32) * p1) + p2)))) fun x10 =>
            some x10)
          else none))
      else none)
    else none)
set_option maxRecDepth 20000 in
theorem k_X12_wired (l : Launch) (w : Wo) (p1 : Int32) (p2 : Int32) (σ : St) : K l w shM m_X12_wired 3 [.ref (0), .int p1, .int p2] σ (f_X12_wired p1 p2 σ) (rI σ) := by
  refine k_of (L := [some (.ref (0)), some (.int p1), some (.int p2)]) (plainFor_of_name (by decide +kernel)) 0 rfl (Nat.le_of_ble_eq_true rfl) ?_
  unfold f_X12_wired
  refine gg_st (go_aload_n 0 d_X12_wired_0 rfl rfl rfl) ?_
  refine gg_st (go_iload_n 1 d_X12_wired_1 rfl rfl rfl) ?_
  refine gv_I (k_X12_isAgent l w p1 σ) cv_X12_406 sM_0 (Nat.le_of_ble_eq_true rfl) rfl rfl (Nat.le_of_ble_eq_true rfl) d_X12_wired_2 rfl (fun x1 => ?_)
  refine gg_br (br_if_ne (tgt := 12) (pc' := 8) d_X12_wired_5 (by decide) rfl) (fun h3 => ?_) (fun h3 => ?_)
  · refine gg_st (go_sipush d_X12_wired_8 cs_m1001 rfl) ?_
    exact gg_iret rfl d_X12_wired_11 rfl
  · refine gg_st (go_iload_n 2 d_X12_wired_12 rfl rfl rfl) ?_
    refine gg_st (go_i2l d_X12_wired_13 rfl) ?_
    refine gg_st (go_lconst d_X12_wired_14 (v := (0 : Int64)) (by decide) rfl) ?_
    refine gg_st (go_aload_n 0 d_X12_wired_15 rfl rfl rfl) ?_
    refine gg_st (go_getR (j := 5) cf12 sM_0 rfl (by decide) fl_X12_21 d_X12_wired_16 rfl) ?_
    refine gg_st (go_aload_n 0 d_X12_wired_19 rfl rfl rfl) ?_
    refine gg_st (go_getR (j := 15) cf12 sM_0 rfl (by decide) fl_X12_49 d_X12_wired_20 rfl) ?_
    refine gg_st (go_iload_n 1 d_X12_wired_23 rfl rfl rfl) ?_
    refine gg_gd (fun h4 => ?_)
    refine gg_st (go_iald sM_12 h4 d_X12_wired_24 rfl) ?_
    refine gg_gd (fun h5 => ?_)
    refine gg_st (go_iald sM_3 h5 d_X12_wired_25 rfl) ?_
    refine gg_st (go_iconst d_X12_wired_26 ci_1 rfl) ?_
    refine gg_st (go_isub d_X12_wired_27 rfl) ?_
    refine gg_st (go_i2l d_X12_wired_28 rfl) ?_
    refine gs_I (k_X12_in l w (p2.toInt64) (0 : Int64) (((σ.1 (3) (ix (σ.1 (12) (ix p1)))) - (1 : Int32)).toInt64) σ) cs_X12_191 (Nat.le_of_ble_eq_true rfl) rfl rfl (Nat.le_of_ble_eq_true rfl) d_X12_wired_29 rfl (fun x6 => ?_)
    refine gg_br (br_if_eq (tgt := 51) (pc' := 35) d_X12_wired_32 (by decide) rfl) (fun h8 => ?_) (fun h8 => ?_)
    · refine gg_st (go_sipush d_X12_wired_51 cs_m1002 rfl) ?_
      exact gg_iret rfl d_X12_wired_54 rfl
    · refine gg_st (go_aload_n 0 d_X12_wired_35 rfl rfl rfl) ?_
      refine gg_st (go_getR (j := 16) cf12 sM_0 rfl (by decide) fl_X12_52 d_X12_wired_36 rfl) ?_
      refine gg_st (go_iconst d_X12_wired_39 ci_5 rfl) ?_
      refine gg_st (go_iload_n 1 d_X12_wired_40 rfl rfl rfl) ?_
      refine gg_st (go_imul d_X12_wired_41 rfl) ?_
      refine gg_st (go_iload_n 2 d_X12_wired_42 rfl rfl rfl) ?_
      refine gg_st (go_iadd d_X12_wired_43 rfl) ?_
      refine gg_gd (fun h9 => ?_)
      refine gg_st (go_iald sM_13 h9 d_X12_wired_44 rfl) ?_
      refine gs_I (k_X12_asTold l w (σ.1 (13) (ix (((5 : Int32) * p1) + p2))) σ) cs_X12_409 (Nat.le_of_ble_eq_true rfl) rfl rfl (Nat.le_of_ble_eq_true rfl) d_X12_wired_45 rfl (fun x10 => ?_)
      refine gg_st (go_goto (pc' := 54) d_X12_wired_48 (by decide)) ?_
      exact gg_iret rfl d_X12_wired_54 rfl
