def f_X12_isSmall (p1 : Int32) : Int32 :=
  if ((97 : Int32) ≤ p1) ∧ (p1 ≤ (122 : Int32)) then (
    (1 : Int32))
  else (
    (0 : Int32))
set_option maxRecDepth 20000 in
theorem k_X12_isSmall (l : Launch) (w : Wo) (p1 : Int32) (σ : St) : K l w shM m_X12_isSmall 1 [.int p1] σ (some (f_X12_isSmall p1)) (rI σ) := by
  refine k_of (L := [some (.int p1)]) (plainFor_of_name (by decide +kernel)) 0 rfl (Nat.le_of_ble_eq_true rfl) ?_
  unfold f_X12_isSmall
  refine gg_st (go_iload_n 0 d_X12_isSmall_0 rfl rfl rfl) ?_
  refine gg_st (go_bipush d_X12_isSmall_1 cb_97 rfl) ?_
  refine gg_twov (c := ((97 : Int32) ≤ p1) ∧ (p1 ≤ (122 : Int32))) (pA := 12) (pB := 16) (LL := [some (.int p1)]) (ss := []) ?_ ?_ (fun hA1 hB2 => ?_)
  · refine gg_st (go_iconst d_X12_isSmall_12 ci_1 rfl) ?_
    refine gg_st (go_goto (pc' := 17) d_X12_isSmall_13 (by decide)) ?_
    exact gg_zret (Or.inr rfl) rfl d_X12_isSmall_17 rfl
  · refine gg_st (go_iconst d_X12_isSmall_16 ci_0 rfl) ?_
    exact gg_zret (Or.inl rfl) rfl d_X12_isSmall_17 rfl
  refine gg_brs (br_icmp_lt (tgt := 16) (pc' := 6) d_X12_isSmall_3 (by decide) rfl) (fun h3 => ?_) (fun h3 => ?_)
  · refine gg_st (go_iload_n 0 d_X12_isSmall_6 rfl rfl rfl) ?_
    refine gg_st (go_bipush d_X12_isSmall_7 cb_122 rfl) ?_
    refine gg_brs (br_icmp_gt (tgt := 16) (pc' := 12) d_X12_isSmall_9 (by decide) rfl) (fun h4 => ?_) (fun h4 => ?_)
    · exact gg_eq (congrArg some (if_pos ⟨h3, h4⟩)) hA1
    · exact gg_eq (congrArg some (if_neg (fun z => h4 z.2))) hB2
  · exact gg_eq (congrArg some (if_neg (fun z => h3 z.1))) hB2
def f_X12_join (p1 : Int32) (p2 : Int32) (σ : St) : Option (St) :=
  if inb p1 1211 then (
    Option.bind (some (seti σ (29) (ix p1) p2)) fun s2 =>
    if inb p2 1211 then (
      Option.bind (some (seti s2 (29) (ix p2) p1)) fun s4 =>
      some s4)
    else none)
  else none
set_option maxRecDepth 20000 in
theorem k_X12_join (l : Launch) (w : Wo) (p1 : Int32) (p2 : Int32) (σ : St) : K l w shM m_X12_join 1 [.ref (0), .int p1, .int p2] σ (f_X12_join p1 p2 σ) (rV) := by
  refine k_of (L := [some (.ref (0)), some (.int p1), some (.int p2)]) (plainFor_of_name (by decide +kernel)) 0 rfl (Nat.le_of_ble_eq_true rfl) ?_
  unfold f_X12_join
  refine gg_st (go_aload_n 0 d_X12_join_0 rfl rfl rfl) ?_
  refine gg_st (go_getR (j := 53) cf12 sM_0 rfl (by decide) fl_X12_104 d_X12_join_1 rfl) ?_
  refine gg_st (go_iload_n 1 d_X12_join_4 rfl rfl rfl) ?_
  refine gg_st (go_iload_n 2 d_X12_join_5 rfl rfl rfl) ?_
  refine gg_gd (fun h1 => ?_)
  refine gg_st (go_iast sM_29 h1 d_X12_join_6 rfl) ?_
  refine gg_som (fun s2 => ?_)
  refine gg_st (go_aload_n 0 d_X12_join_7 rfl rfl rfl) ?_
  refine gg_st (go_getR (j := 53) cf12 sM_0 rfl (by decide) fl_X12_104 d_X12_join_8 rfl) ?_
  refine gg_st (go_iload_n 2 d_X12_join_11 rfl rfl rfl) ?_
  refine gg_st (go_iload_n 1 d_X12_join_12 rfl rfl rfl) ?_
  refine gg_gd (fun h3 => ?_)
  refine gg_st (go_iast sM_29 h3 d_X12_join_13 rfl) ?_
  refine gg_som (fun s4 => ?_)
  exact gg_vret rfl d_X12_join_14 rfl
def f_X12_keep_L13 (F : Nat) (c1 : Int32) : Nat → Int32 → St → Option (St)
  | 0, _, _ => none
  | n + 1, v3, g =>
    if v3 < (400 : Int32) then (
      if inb v3 400 then (
        if inb (((400 : Int32) * c1) + v3) 1600 then (
          Option.bind (some (seti g (44) (ix (((400 : Int32) * c1) + v3)) (g.1 (12) (ix v3)))) fun s8 =>
          f_X12_keep_L13 F c1 n (v3 + (1 : Int32)) s8)
        else none)
      else none)
    else (
      some g)
def f_X12_keep_L46 (F : Nat) (c1 : Int32) : Nat → Int32 → St → Option (St)
  | 0, _, _ => none
  | n + 1, v10, g =>
    if v10 < (2000 : Int32) then (
      if inb v10 2000 then (
        if inb (((2000 : Int32) * c1) + v10) 8000 then (
          Option.bind (some (seti g (45) (ix (((2000 : Int32) * c1) + v10)) (g.1 (13) (ix v10)))) fun s15 =>
          f_X12_keep_L46 F c1 n (v10 + (1 : Int32)) s15)
        else none)
      else none)
    else (
      some g)
def f_X12_keep_L79 (F : Nat) (c1 : Int32) : Nat → Int32 → St → Option (St)
  | 0, _, _ => none
  | n + 1, v17, g =>
    if v17 < (8 : Int32) then (
      if inb v17 8 then (
        if inb (((8 : Int32) * c1) + v17) 32 then (
          Option.bind (some (seti g (46) (ix (((8 : Int32) * c1) + v17)) (g.1 (14) (ix v17)))) fun s22 =>
          f_X12_keep_L79 F c1 n (v17 + (1 : Int32)) s22)
        else none)
      else none)
    else (
      some g)
def f_X12_keep (F : Nat) (p1 : Int32) (σ : St) : Option (Int32 × St) :=
  Option.bind (f_X12_isShelf p1) fun x1 =>
  if x1 = 0 then (
    some ((-1001 : Int32), σ))
  else (
    Option.bind (f_X12_keep_L13 F p1 F (0 : Int32) σ) fun t9 =>
    Option.bind (f_X12_keep_L46 F p1 F (0 : Int32) t9) fun t16 =>
    Option.bind (f_X12_keep_L79 F p1 F (0 : Int32) t16) fun t23 =>
    if inb p1 4 then (
      Option.bind (some (seti t23 (47) (ix p1) (t23.1 (0) 18))) fun s25 =>
      if inb p1 4 then (
        Option.bind (some (seti s25 (48) (ix p1) (s25.1 (0) 19))) fun s27 =>
        Option.bind (f_X12_agentMany F s27) fun x28 =>
        some (x28, s27))
      else none)
    else none)
set_option maxRecDepth 20000 in
theorem g_f_X12_keep_L13 (l : Launch) (w : Wo) (F : Nat) (c1 : Int32) : ∀ (n : Nat) (v3 : Int32) (g : St), GG l w shM m_X12_keep 3 13 [some (.ref (0)), some (.int c1), some (.int v3)] [] g (f_X12_keep_L13 F c1 n v3 g) (fun (t : St) => .inl (44, [some (.ref (0)), some (.int c1), none], [], t)) := by
  intro n
  induction n with
  | zero =>
    intro v3 g
    exact gg_none
  | succ n ih =>
    intro v3 g
    rw [f_X12_keep_L13]
    refine gg_st (go_iload_n 2 d_X12_keep_13 rfl rfl rfl) ?_
    refine gg_st (go_sipush d_X12_keep_14 cs_400 rfl) ?_
    refine gg_br (br_icmp_ge (tgt := 44) (pc' := 20) d_X12_keep_17 (by decide) rfl) (fun h5 => ?_) (fun h5 => ?_)
    · refine gg_st (go_aload_n 0 d_X12_keep_20 rfl rfl rfl) ?_
      refine gg_st (go_getR (j := 73) cf12 sM_0 rfl (by decide) fl_X12_149 d_X12_keep_21 rfl) ?_
      refine gg_st (go_sipush d_X12_keep_24 cs_400 rfl) ?_
      refine gg_st (go_iload_n 1 d_X12_keep_27 rfl rfl rfl) ?_
      refine gg_st (go_imul d_X12_keep_28 rfl) ?_
      refine gg_st (go_iload_n 2 d_X12_keep_29 rfl rfl rfl) ?_
      refine gg_st (go_iadd d_X12_keep_30 rfl) ?_
      refine gg_st (go_aload_n 0 d_X12_keep_31 rfl rfl rfl) ?_
      refine gg_st (go_getR (j := 15) cf12 sM_0 rfl (by decide) fl_X12_49 d_X12_keep_32 rfl) ?_
      refine gg_st (go_iload_n 2 d_X12_keep_35 rfl rfl rfl) ?_
      refine gg_gd (fun h6 => ?_)
      refine gg_st (go_iald sM_12 h6 d_X12_keep_36 rfl) ?_
      refine gg_gd (fun h7 => ?_)
      refine gg_st (go_iast sM_44 h7 d_X12_keep_37 rfl) ?_
      refine gg_som (fun s8 => ?_)
      refine gg_st (go_iinc 2 d_X12_keep_38 rfl (v := v3 + (1 : Int32)) (by rw [ci_1]) (by decide) (L' := [some (.ref (0)), some (.int c1), some (.int (v3 + (1 : Int32)))]) rfl rfl) ?_
      refine gg_st (go_goto (pc' := 13) d_X12_keep_41 (by decide)) ?_
      exact ih (v3 + (1 : Int32)) s8
    · refine gg_st (go_fg [some (.ref (0)), some (.int c1), none] ⟨rfl, ⟨rfl, trivial⟩⟩) ?_
      exact gg_end rfl
set_option maxRecDepth 20000 in
theorem g_f_X12_keep_L46 (l : Launch) (w : Wo) (F : Nat) (c1 : Int32) : ∀ (n : Nat) (v10 : Int32) (g : St), GG l w shM m_X12_keep 3 46 [some (.ref (0)), some (.int c1), some (.int v10)] [] g (f_X12_keep_L46 F c1 n v10 g) (fun (t : St) => .inl (77, [some (.ref (0)), some (.int c1), none], [], t)) := by
  intro n
  induction n with
  | zero =>
    intro v10 g
    exact gg_none
  | succ n ih =>
    intro v10 g
    rw [f_X12_keep_L46]
    refine gg_st (go_iload_n 2 d_X12_keep_46 rfl rfl rfl) ?_
    refine gg_st (go_sipush d_X12_keep_47 cs_2000 rfl) ?_
    refine gg_br (br_icmp_ge (tgt := 77) (pc' := 53) d_X12_keep_50 (by decide) rfl) (fun h12 => ?_) (fun h12 => ?_)
    · refine gg_st (go_aload_n 0 d_X12_keep_53 rfl rfl rfl) ?_
      refine gg_st (go_getR (j := 74) cf12 sM_0 rfl (by decide) fl_X12_152 d_X12_keep_54 rfl) ?_
      refine gg_st (go_sipush d_X12_keep_57 cs_2000 rfl) ?_
      refine gg_st (go_iload_n 1 d_X12_keep_60 rfl rfl rfl) ?_
      refine gg_st (go_imul d_X12_keep_61 rfl) ?_
      refine gg_st (go_iload_n 2 d_X12_keep_62 rfl rfl rfl) ?_
      refine gg_st (go_iadd d_X12_keep_63 rfl) ?_
      refine gg_st (go_aload_n 0 d_X12_keep_64 rfl rfl rfl) ?_
      refine gg_st (go_getR (j := 16) cf12 sM_0 rfl (by decide) fl_X12_52 d_X12_keep_65 rfl) ?_
      refine gg_st (go_iload_n 2 d_X12_keep_68 rfl rfl rfl) ?_
      refine gg_gd (fun h13 => ?_)
      refine gg_st (go_iald sM_13 h13 d_X12_keep_69 rfl) ?_
      refine gg_gd (fun h14 => ?_)
      refine gg_st (go_iast sM_45 h14 d_X12_keep_70 rfl) ?_
      refine gg_som (fun s15 => ?_)
      refine gg_st (go_iinc 2 d_X12_keep_71 rfl (v := v10 + (1 : Int32)) (by rw [ci_1]) (by decide) (L' := [some (.ref (0)), some (.int c1), some (.int (v10 + (1 : Int32)))]) rfl rfl) ?_
      refine gg_st (go_goto (pc' := 46) d_X12_keep_74 (by decide)) ?_
      exact ih (v10 + (1 : Int32)) s15
    · refine gg_st (go_fg [some (.ref (0)), some (.int c1), none] ⟨rfl, ⟨rfl, trivial⟩⟩) ?_
      exact gg_end rfl
set_option maxRecDepth 20000 in
theorem g_f_X12_keep_L79 (l : Launch) (w : Wo) (F : Nat) (c1 : Int32) : ∀ (n : Nat) (v17 : Int32) (g : St), GG l w shM m_X12_keep 3 79 [some (.ref (0)), some (.int c1), some (.int v17)] [] g (f_X12_keep_L79 F c1 n v17 g) (fun (t : St) => .inl (108, [some (.ref (0)), some (.int c1), none], [], t)) := by
  intro n
  induction n with
  | zero =>
    intro v17 g
    exact gg_none
  | succ n ih =>
    intro v17 g
    rw [f_X12_keep_L79]
    refine gg_st (go_iload_n 2 d_X12_keep_79 rfl rfl rfl) ?_
    refine gg_st (go_bipush d_X12_keep_80 cb_8 rfl) ?_
    refine gg_br (br_icmp_ge (tgt := 108) (pc' := 85) d_X12_keep_82 (by decide) rfl) (fun h19 => ?_) (fun h19 => ?_)
    · refine gg_st (go_aload_n 0 d_X12_keep_85 rfl rfl rfl) ?_
      refine gg_st (go_getR (j := 75) cf12 sM_0 rfl (by decide) fl_X12_155 d_X12_keep_86 rfl) ?_
      refine gg_st (go_bipush d_X12_keep_89 cb_8 rfl) ?_
      refine gg_st (go_iload_n 1 d_X12_keep_91 rfl rfl rfl) ?_
      refine gg_st (go_imul d_X12_keep_92 rfl) ?_
      refine gg_st (go_iload_n 2 d_X12_keep_93 rfl rfl rfl) ?_
      refine gg_st (go_iadd d_X12_keep_94 rfl) ?_
      refine gg_st (go_aload_n 0 d_X12_keep_95 rfl rfl rfl) ?_
      refine gg_st (go_getR (j := 17) cf12 sM_0 rfl (by decide) fl_X12_55 d_X12_keep_96 rfl) ?_
      refine gg_st (go_iload_n 2 d_X12_keep_99 rfl rfl rfl) ?_
      refine gg_gd (fun h20 => ?_)
      refine gg_st (go_iald sM_14 h20 d_X12_keep_100 rfl) ?_
      refine gg_gd (fun h21 => ?_)
      refine gg_st (go_iast sM_46 h21 d_X12_keep_101 rfl) ?_
      refine gg_som (fun s22 => ?_)
      refine gg_st (go_iinc 2 d_X12_keep_102 rfl (v := v17 + (1 : Int32)) (by rw [ci_1]) (by decide) (L' := [some (.ref (0)), some (.int c1), some (.int (v17 + (1 : Int32)))]) rfl rfl) ?_
      refine gg_st (go_goto (pc' := 79) d_X12_keep_105 (by decide)) ?_
      exact ih (v17 + (1 : Int32)) s22
    · refine gg_st (go_fg [some (.ref (0)), some (.int c1), none] ⟨rfl, ⟨rfl, trivial⟩⟩) ?_
      exact gg_end rfl
set_option maxRecDepth 20000 in
theorem k_X12_keep (l : Launch) (w : Wo) (F : Nat) (p1 : Int32) (σ : St) : K l w shM m_X12_keep 3 [.ref (0), .int p1] σ (f_X12_keep F p1 σ) (rIS) := by
  refine k_of (L := [some (.ref (0)), some (.int p1), none]) (plainFor_of_name (by decide +kernel)) 1 rfl (Nat.le_of_ble_eq_true rfl) ?_
  unfold f_X12_keep
  refine gg_st (go_iload_n 1 d_X12_keep_0 rfl rfl rfl) ?_
  refine gs_I (k_X12_isShelf l w p1 σ) cs_X12_447 (Nat.le_of_ble_eq_true rfl) rfl rfl (Nat.le_of_ble_eq_true rfl) d_X12_keep_1 rfl (fun x1 => ?_)
  refine gg_br (br_if_ne (tgt := 11) (pc' := 7) d_X12_keep_4 (by decide) rfl) (fun h2 => ?_) (fun h2 => ?_)
  · refine gg_st (go_sipush d_X12_keep_7 cs_m1001 rfl) ?_
    exact gg_iret rfl d_X12_keep_10 rfl
  · refine gg_st (go_iconst d_X12_keep_11 ci_0 rfl) ?_
    refine gg_st (go_istore_n 2 d_X12_keep_12 rfl (by decide) (L' := [some (.ref (0)), some (.int p1), some (.int (0 : Int32))]) rfl rfl) ?_
    refine gg_bind 44 (fun (t9 : St) => [some (.ref (0)), some (.int p1), none]) (fun (t9 : St) => []) (fun (t9 : St) => t9) (g_f_X12_keep_L13 l w F p1 F (0 : Int32) σ) (fun t9 => ?_)
    refine gg_st (go_iconst d_X12_keep_44 ci_0 rfl) ?_
    refine gg_st (go_istore_n 2 d_X12_keep_45 rfl (by decide) (L' := [some (.ref (0)), some (.int p1), some (.int (0 : Int32))]) rfl rfl) ?_
    refine gg_bind 77 (fun (t16 : St) => [some (.ref (0)), some (.int p1), none]) (fun (t16 : St) => []) (fun (t16 : St) => t16) (g_f_X12_keep_L46 l w F p1 F (0 : Int32) t9) (fun t16 => ?_)
    refine gg_st (go_iconst d_X12_keep_77 ci_0 rfl) ?_
    refine gg_st (go_istore_n 2 d_X12_keep_78 rfl (by decide) (L' := [some (.ref (0)), some (.int p1), some (.int (0 : Int32))]) rfl rfl) ?_
    refine gg_bind 108 (fun (t23 : St) => [some (.ref (0)), some (.int p1), none]) (fun (t23 : St) => []) (fun (t23 : St) => t23) (g_f_X12_keep_L79 l w F p1 F (0 : Int32) t16) (fun t23 => ?_)
    refine gg_st (go_aload_n 0 d_X12_keep_108 rfl rfl rfl) ?_
    refine gg_st (go_getR (j := 76) cf12 sM_0 rfl (by decide) fl_X12_158 d_X12_keep_109 rfl) ?_
    refine gg_st (go_iload_n 1 d_X12_keep_112 rfl rfl rfl) ?_
    refine gg_st (go_aload_n 0 d_X12_keep_113 rfl rfl rfl) ?_
    refine gg_st (go_getI (j := 18) cf12 sM_0 rfl (by decide) fl_X12_182 d_X12_keep_114 rfl) ?_
    refine gg_gd (fun h24 => ?_)
    refine gg_st (go_iast sM_47 h24 d_X12_keep_117 rfl) ?_
    refine gg_som (fun s25 => ?_)
    refine gg_st (go_aload_n 0 d_X12_keep_118 rfl rfl rfl) ?_
    refine gg_st (go_getR (j := 77) cf12 sM_0 rfl (by decide) fl_X12_161 d_X12_keep_119 rfl) ?_
    refine gg_st (go_iload_n 1 d_X12_keep_122 rfl rfl rfl) ?_
    refine gg_st (go_aload_n 0 d_X12_keep_123 rfl rfl rfl) ?_
    refine gg_st (go_getI (j := 19) cf12 sM_0 rfl (by decide) fl_X12_185 d_X12_keep_124 rfl) ?_
    refine gg_gd (fun h26 => ?_)
    refine gg_st (go_iast sM_48 h26 d_X12_keep_127 rfl) ?_
    refine gg_som (fun s27 => ?_)
    refine gg_st (go_aload_n 0 d_X12_keep_128 rfl rfl rfl) ?_
    refine gv_I (k_X12_agentMany l w F  s27) cv_X12_388 sM_0 (Nat.le_of_ble_eq_true rfl) rfl rfl (Nat.le_of_ble_eq_true rfl) d_X12_keep_129 rfl (fun x28 => ?_)
    exact gg_iret rfl d_X12_keep_132 rfl
def f_X12_kind_L41 (F : Nat) (c1 : Int32) (c2 : Int32) (σ : St) : Nat → Int32 → Int32 → Option (Int32)
  | 0, _, _ => none
  | n + 1, v5, v6 =>
    if v6 < (400 : Int32) then (
      if inb v6 400 then (
        Option.bind (
          if (σ.1 (12) (ix v6)) = c1 then (
            some (1 : Int32))
          else (
            some (0 : Int32))) fun t10 =>
        Option.bind (some (v5 + t10)) fun x12 =>
        f_X12_kind_L41 F c1 c2 σ n x12 (v6 + (1 : Int32)))
      else none)
    else (
      some v5)
def f_X12_kind (F : Nat) (p1 : Int32) (p2 : Int32) (σ : St) : Option (Int32) :=
  Option.bind (some (f_X12_in (p1.toInt64) (0 : Int64) (((σ.1 (0) 3) - (1 : Int32)).toInt64))) fun x1 =>
  if x1 = 0 then (
    some (-1001 : Int32))
  else (
    Option.bind (some (f_X12_in (p2.toInt64) (0 : Int64) (6 : Int64))) fun x3 =>
    if x3 = 0 then (
      some (-1002 : Int32))
    else (
      Option.bind (f_X12_kind_L41 F p1 p2 σ F (0 : Int32) (0 : Int32)) fun t13 =>
      Option.bind (some (p2 - (2 : Int32))) fun x14 =>
      if p2 = 0 then (
        if inb p1 16 then (
          some (σ.1 (3) (ix p1)))
        else none)
      else (
        if p2 = (1 : Int32) then (
          some t13)
        else (
          if inb p1 16 then (
            if (σ.1 (3) (ix p1)) ≤ x14 then (
              some (-100 : Int32))
            else (
              if inb (((5 : Int32) * p1) + x14) 80 then (
                if (σ.1 (5) (ix (((5 : Int32) * p1) + x14))) = 0 then (
                  if inb (((5 : Int32) * p1) + x14) 80 then (
                    some ((-1 : Int32) - (σ.1 (4) (ix (((5 : Int32) * p1) + x14)))))
                  else none)
                else (
                  if inb (((5 : Int32) * p1) + x14) 80 then (
                    some (σ.1 (4) (ix (((5 : Int32) * p1) + x14))))
                  else none))
              else none))
          else none))))
set_option maxRecDepth 20000 in
theorem g_f_X12_kind_L41 (l : Launch) (w : Wo) (F : Nat) (c1 : Int32) (c2 : Int32) (σ : St) : ∀ (n : Nat) (v5 : Int32) (v6 : Int32), GG l w shM m_X12_kind 2 41 [some (.ref (0)), some (.int c1), some (.int c2), some (.int v5), some (.int v6)] [] σ (f_X12_kind_L41 F c1 c2 σ n v5 v6) (fun (t : Int32) => .inl (74, [some (.ref (0)), some (.int c1), some (.int c2), some (.int t), none], [], σ)) := by
  intro n
  induction n with
  | zero =>
    intro v5 v6
    exact gg_none
  | succ n ih =>
    intro v5 v6
    rw [f_X12_kind_L41]
    refine gg_st (go_iload 4 d_X12_kind_41 rfl rfl) ?_
    refine gg_st (go_sipush d_X12_kind_43 cs_400 rfl) ?_
    refine gg_br (br_icmp_ge (tgt := 74) (pc' := 49) d_X12_kind_46 (by decide) rfl) (fun h8 => ?_) (fun h8 => ?_)
    · refine gg_st (go_iload_n 3 d_X12_kind_49 rfl rfl rfl) ?_
      refine gg_st (go_aload_n 0 d_X12_kind_50 rfl rfl rfl) ?_
      refine gg_st (go_getR (j := 15) cf12 sM_0 rfl (by decide) fl_X12_49 d_X12_kind_51 rfl) ?_
      refine gg_st (go_iload 4 d_X12_kind_54 rfl rfl) ?_
      refine gg_gd (fun h9 => ?_)
      refine gg_st (go_iald sM_12 h9 d_X12_kind_56 rfl) ?_
      refine gg_st (go_iload_n 1 d_X12_kind_57 rfl rfl rfl) ?_
      refine gg_bind 66 (fun (t10 : Int32) => [some (.ref (0)), some (.int c1), some (.int c2), none, some (.int v6)]) (fun (t10 : Int32) => [.int t10, .int v5]) (fun (t10 : Int32) => σ) ?_ (fun t10 => ?_)
      · refine gg_br (br_icmp_ne (tgt := 65) (pc' := 61) d_X12_kind_58 (by decide) rfl) (fun h11 => ?_) (fun h11 => ?_)
        · refine gg_st (go_iconst d_X12_kind_61 ci_1 rfl) ?_
          refine gg_st (go_goto (pc' := 66) d_X12_kind_62 (by decide)) ?_
          refine gg_st (go_fg [some (.ref (0)), some (.int c1), some (.int c2), none, some (.int v6)] ⟨rfl, ⟨rfl, ⟨rfl, ⟨rfl, trivial⟩⟩⟩⟩) ?_
          exact gg_end rfl
        · refine gg_st (go_iconst d_X12_kind_65 ci_0 rfl) ?_
          refine gg_st (go_fg [some (.ref (0)), some (.int c1), some (.int c2), none, some (.int v6)] ⟨rfl, ⟨rfl, ⟨rfl, ⟨rfl, trivial⟩⟩⟩⟩) ?_
          exact gg_end rfl
      · refine gg_st (go_iadd d_X12_kind_66 rfl) ?_
        refine gg_nm (fun _ => [some (.ref (0)), some (.int c1), some (.int c2), none, some (.int v6)]) (fun (x12 : Int32) => [.int x12]) (fun x12 => ?_)
        refine gg_st (go_istore_n 3 d_X12_kind_67 rfl (by decide) (L' := [some (.ref (0)), some (.int c1), some (.int c2), some (.int x12), some (.int v6)]) rfl rfl) ?_
        refine gg_st (go_iinc 4 d_X12_kind_68 rfl (v := v6 + (1 : Int32)) (by rw [ci_1]) (by decide) (L' := [some (.ref (0)), some (.int c1), some (.int c2), some (.int x12), some (.int (v6 + (1 : Int32)))]) rfl rfl) ?_
        refine gg_st (go_goto (pc' := 41) d_X12_kind_71 (by decide)) ?_
        exact ih x12 (v6 + (1 : Int32))
    · refine gg_st (go_fg [some (.ref (0)), some (.int c1), some (.int c2), some (.int v5), none] ⟨rfl, ⟨rfl, ⟨rfl, ⟨rfl, trivial⟩⟩⟩⟩) ?_
      exact gg_end rfl
set_option maxRecDepth 20000 in
theorem k_X12_kind (l : Launch) (w : Wo) (F : Nat) (p1 : Int32) (p2 : Int32) (σ : St) : K l w shM m_X12_kind 2 [.ref (0), .int p1, .int p2] σ (f_X12_kind F p1 p2 σ) (rI σ) := by
  refine k_of (L := [some (.ref (0)), some (.int p1), some (.int p2), none, none]) (plainFor_of_name (by decide +kernel)) 2 rfl (Nat.le_of_ble_eq_true rfl) ?_
  unfold f_X12_kind
  refine gg_st (go_iload_n 1 d_X12_kind_0 rfl rfl rfl) ?_
  refine gg_st (go_i2l d_X12_kind_1 rfl) ?_
  refine gg_st (go_lconst d_X12_kind_2 (v := (0 : Int64)) (by decide) rfl) ?_
  refine gg_st (go_aload_n 0 d_X12_kind_3 rfl rfl rfl) ?_
  refine gg_st (go_getI (j := 3) cf12 sM_0 rfl (by decide) fl_X12_354 d_X12_kind_4 rfl) ?_
  refine gg_st (go_iconst d_X12_kind_7 ci_1 rfl) ?_
  refine gg_st (go_isub d_X12_kind_8 rfl) ?_
  refine gg_st (go_i2l d_X12_kind_9 rfl) ?_
  refine gs_I (k_X12_in l w (p1.toInt64) (0 : Int64) (((σ.1 (0) 3) - (1 : Int32)).toInt64) σ) cs_X12_191 (Nat.le_of_ble_eq_true rfl) rfl rfl (Nat.le_of_ble_eq_true rfl) d_X12_kind_10 rfl (fun x1 => ?_)
  refine gg_br (br_if_ne (tgt := 20) (pc' := 16) d_X12_kind_13 (by decide) rfl) (fun h2 => ?_) (fun h2 => ?_)
  · refine gg_st (go_sipush d_X12_kind_16 cs_m1001 rfl) ?_
    exact gg_iret rfl d_X12_kind_19 rfl
  · refine gg_st (go_iload_n 2 d_X12_kind_20 rfl rfl rfl) ?_
    refine gg_st (go_i2l d_X12_kind_21 rfl) ?_
    refine gg_st (go_lconst d_X12_kind_22 (v := (0 : Int64)) (by decide) rfl) ?_
    refine gg_st (go_ldc2 ll_X12_404 d_X12_kind_23 rfl) ?_
    refine gs_I (k_X12_in l w (p2.toInt64) (0 : Int64) (6 : Int64) σ) cs_X12_191 (Nat.le_of_ble_eq_true rfl) rfl rfl (Nat.le_of_ble_eq_true rfl) d_X12_kind_26 rfl (fun x3 => ?_)
    refine gg_br (br_if_ne (tgt := 36) (pc' := 32) d_X12_kind_29 (by decide) rfl) (fun h4 => ?_) (fun h4 => ?_)
    · refine gg_st (go_sipush d_X12_kind_32 cs_m1002 rfl) ?_
      exact gg_iret rfl d_X12_kind_35 rfl
    · refine gg_st (go_iconst d_X12_kind_36 ci_0 rfl) ?_
      refine gg_st (go_istore_n 3 d_X12_kind_37 rfl (by decide) (L' := [some (.ref (0)), some (.int p1), some (.int p2), some (.int (0 : Int32)), none]) rfl rfl) ?_
      refine gg_st (go_iconst d_X12_kind_38 ci_0 rfl) ?_
      refine gg_st (go_istore 4 d_X12_kind_39 (by decide) (L' := [some (.ref (0)), some (.int p1), some (.int p2), some (.int (0 : Int32)), some (.int (0 : Int32))]) rfl rfl) ?_
      refine gg_bind 74 (fun (t13 : Int32) => [some (.ref (0)), some (.int p1), some (.int p2), some (.int t13), none]) (fun (t13 : Int32) => []) (fun (t13 : Int32) => σ) (g_f_X12_kind_L41 l w F p1 p2 σ F (0 : Int32) (0 : Int32)) (fun t13 => ?_)
      refine gg_st (go_iload_n 2 d_X12_kind_74 rfl rfl rfl) ?_
      refine gg_st (go_iconst d_X12_kind_75 ci_2 rfl) ?_
      refine gg_st (go_isub d_X12_kind_76 rfl) ?_
      refine gg_nm (fun _ => [some (.ref (0)), some (.int p1), some (.int p2), some (.int t13), none]) (fun (x14 : Int32) => [.int x14]) (fun x14 => ?_)
      refine gg_st (go_istore 4 d_X12_kind_77 (by decide) (L' := [some (.ref (0)), some (.int p1), some (.int p2), some (.int t13), some (.int x14)]) rfl rfl) ?_
      refine gg_st (go_iload_n 2 d_X12_kind_79 rfl rfl rfl) ?_
      refine gg_br (br_if_ne (tgt := 92) (pc' := 83) d_X12_kind_80 (by decide) rfl) (fun h17 => ?_) (fun h17 => ?_)
      · refine gg_st (go_aload_n 0 d_X12_kind_83 rfl rfl rfl) ?_
        refine gg_st (go_getR (j := 5) cf12 sM_0 rfl (by decide) fl_X12_21 d_X12_kind_84 rfl) ?_
        refine gg_st (go_iload_n 1 d_X12_kind_87 rfl rfl rfl) ?_
        refine gg_gd (fun h18 => ?_)
        refine gg_st (go_iald sM_3 h18 d_X12_kind_88 rfl) ?_
        refine gg_st (go_goto (pc' := 158) d_X12_kind_89 (by decide)) ?_
        exact gg_iret rfl d_X12_kind_158 rfl
      · refine gg_st (go_iload_n 2 d_X12_kind_92 rfl rfl rfl) ?_
        refine gg_st (go_iconst d_X12_kind_93 ci_1 rfl) ?_
        refine gg_br (br_icmp_ne (tgt := 101) (pc' := 97) d_X12_kind_94 (by decide) rfl) (fun h20 => ?_) (fun h20 => ?_)
        · refine gg_st (go_iload_n 3 d_X12_kind_97 rfl rfl rfl) ?_
          refine gg_st (go_goto (pc' := 158) d_X12_kind_98 (by decide)) ?_
          exact gg_iret rfl d_X12_kind_158 rfl
        · refine gg_st (go_iload 4 d_X12_kind_101 rfl rfl) ?_
          refine gg_st (go_aload_n 0 d_X12_kind_103 rfl rfl rfl) ?_
          refine gg_st (go_getR (j := 5) cf12 sM_0 rfl (by decide) fl_X12_21 d_X12_kind_104 rfl) ?_
          refine gg_st (go_iload_n 1 d_X12_kind_107 rfl rfl rfl) ?_
          refine gg_gd (fun h21 => ?_)
          refine gg_st (go_iald sM_3 h21 d_X12_kind_108 rfl) ?_
          refine gg_br (br_icmp_lt (tgt := 117) (pc' := 112) d_X12_kind_109 (by decide) rfl) (fun h23 => ?_) (fun h23 => ?_)
          · refine gg_st (go_bipush d_X12_kind_112 cb_m100 rfl) ?_
            refine gg_st (go_goto (pc' := 158) d_X12_kind_114 (by decide)) ?_
            exact gg_iret rfl d_X12_kind_158 rfl
          · refine gg_st (go_aload_n 0 d_X12_kind_117 rfl rfl rfl) ?_
            refine gg_st (go_getR (j := 7) cf12 sM_0 rfl (by decide) fl_X12_27 d_X12_kind_118 rfl) ?_
            refine gg_st (go_iconst d_X12_kind_121 ci_5 rfl) ?_
            refine gg_st (go_iload_n 1 d_X12_kind_122 rfl rfl rfl) ?_
            refine gg_st (go_imul d_X12_kind_123 rfl) ?_
            refine gg_st (go_iload 4 d_X12_kind_124 rfl rfl) ?_
            refine gg_st (go_iadd d_X12_kind_126 rfl) ?_
            refine gg_gd (fun h24 => ?_)
            refine gg_st (go_zald sM_5 h24 d_X12_kind_127 rfl) ?_
            refine gg_br (br_if_eq (tgt := 145) (pc' := 131) d_X12_kind_128 (by decide) rfl) (fun h27 => ?_) (fun h27 => ?_)
            · refine gg_st (go_iconst d_X12_kind_145 ci_m1 rfl) ?_
              refine gg_st (go_aload_n 0 d_X12_kind_146 rfl rfl rfl) ?_
              refine gg_st (go_getR (j := 6) cf12 sM_0 rfl (by decide) fl_X12_24 d_X12_kind_147 rfl) ?_
              refine gg_st (go_iconst d_X12_kind_150 ci_5 rfl) ?_
              refine gg_st (go_iload_n 1 d_X12_kind_151 rfl rfl rfl) ?_
              refine gg_st (go_imul d_X12_kind_152 rfl) ?_
              refine gg_st (go_iload 4 d_X12_kind_153 rfl rfl) ?_
              refine gg_st (go_iadd d_X12_kind_155 rfl) ?_
              refine gg_gd (fun h28 => ?_)
              refine gg_st (go_iald sM_4 h28 d_X12_kind_156 rfl) ?_
              refine gg_st (go_isub d_X12_kind_157 rfl) ?_
              exact gg_iret rfl d_X12_kind_158 rfl
            · refine gg_st (go_aload_n 0 d_X12_kind_131 rfl rfl rfl) ?_
              refine gg_st (go_getR (j := 6) cf12 sM_0 rfl (by decide) fl_X12_24 d_X12_kind_132 rfl) ?_
              refine gg_st (go_iconst d_X12_kind_135 ci_5 rfl) ?_
              refine gg_st (go_iload_n 1 d_X12_kind_136 rfl rfl rfl) ?_
              refine gg_st (go_imul d_X12_kind_137 rfl) ?_
              refine gg_st (go_iload 4 d_X12_kind_138 rfl rfl) ?_
              refine gg_st (go_iadd d_X12_kind_140 rfl) ?_
              refine gg_gd (fun h29 => ?_)
              refine gg_st (go_iald sM_4 h29 d_X12_kind_141 rfl) ?_
              refine gg_st (go_goto (pc' := 158) d_X12_kind_142 (by decide)) ?_
              exact gg_iret rfl d_X12_kind_158 rfl
def f_X12_kindNamed_L5 (F : Nat) (c1 : Int64) (σ : St) : Nat → Int32 → Int32 → Option (Int32)
  | 0, _, _ => none
  | n + 1, v1, v2 =>
    if v2 < (σ.1 (0) 36) then (
      if inb v2 16 then (
        Option.bind (
          if (lg_cmp (σ.2 (17) (ix v2)) c1) = 0 then (
            some v2)
          else (
            some v1)) fun t6 =>
        f_X12_kindNamed_L5 F c1 σ n t6 (v2 + (1 : Int32)))
      else none)
    else (
      some v1)
def f_X12_kindNamed (F : Nat) (p1 : Int64) (σ : St) : Option (Int32) :=
  Option.bind (f_X12_kindNamed_L5 F p1 σ F (-1 : Int32) (0 : Int32)) fun t8 =>
  some t8
set_option maxRecDepth 20000 in
theorem g_f_X12_kindNamed_L5 (l : Launch) (w : Wo) (F : Nat) (c1 : Int64) (σ : St) : ∀ (n : Nat) (v1 : Int32) (v2 : Int32), GG l w shM m_X12_kindNamed 1 5 [some (.ref (0)), some (.long c1), none, some (.int v1), some (.int v2)] [] σ (f_X12_kindNamed_L5 F c1 σ n v1 v2) (fun (t : Int32) => .inl (39, [none, none, none, some (.int t), none], [], σ)) := by
  intro n
  induction n with
  | zero =>
    intro v1 v2
    exact gg_none
  | succ n ih =>
    intro v1 v2
    rw [f_X12_kindNamed_L5]
    refine gg_st (go_iload 4 d_X12_kindNamed_5 rfl rfl) ?_
    refine gg_st (go_aload_n 0 d_X12_kindNamed_7 rfl rfl rfl) ?_
    refine gg_st (go_getI (j := 36) cf12 sM_0 rfl (by decide) fl_X12_248 d_X12_kindNamed_8 rfl) ?_
    refine gg_br (br_icmp_ge (tgt := 39) (pc' := 14) d_X12_kindNamed_11 (by decide) rfl) (fun h4 => ?_) (fun h4 => ?_)
    · refine gg_st (go_aload_n 0 d_X12_kindNamed_14 rfl rfl rfl) ?_
      refine gg_st (go_getR (j := 37) cf12 sM_0 rfl (by decide) fl_X12_68 d_X12_kindNamed_15 rfl) ?_
      refine gg_st (go_iload 4 d_X12_kindNamed_18 rfl rfl) ?_
      refine gg_gd (fun h5 => ?_)
      refine gg_st (go_lald sM_17 h5 d_X12_kindNamed_20 rfl) ?_
      refine gg_st (go_lload_n 1 d_X12_kindNamed_21 rfl rfl rfl) ?_
      refine gg_st (go_lcmp d_X12_kindNamed_22 rfl) ?_
      refine gg_bind 32 (fun (t6 : Int32) => [some (.ref (0)), some (.long c1), none, none, some (.int v2)]) (fun (t6 : Int32) => [.int t6]) (fun (t6 : Int32) => σ) ?_ (fun t6 => ?_)
      · refine gg_br (br_if_ne (tgt := 31) (pc' := 26) d_X12_kindNamed_23 (by decide) rfl) (fun h7 => ?_) (fun h7 => ?_)
        · refine gg_st (go_iload 4 d_X12_kindNamed_26 rfl rfl) ?_
          refine gg_st (go_goto (pc' := 32) d_X12_kindNamed_28 (by decide)) ?_
          refine gg_st (go_fg [some (.ref (0)), some (.long c1), none, none, some (.int v2)] ⟨rfl, ⟨rfl, ⟨rfl, trivial⟩⟩⟩) ?_
          exact gg_end rfl
        · refine gg_st (go_iload_n 3 d_X12_kindNamed_31 rfl rfl rfl) ?_
          refine gg_st (go_fg [some (.ref (0)), some (.long c1), none, none, some (.int v2)] ⟨rfl, ⟨rfl, ⟨rfl, trivial⟩⟩⟩) ?_
          exact gg_end rfl
      · refine gg_st (go_istore_n 3 d_X12_kindNamed_32 rfl (by decide) (L' := [some (.ref (0)), some (.long c1), none, some (.int t6), some (.int v2)]) rfl rfl) ?_
        refine gg_st (go_iinc 4 d_X12_kindNamed_33 rfl (v := v2 + (1 : Int32)) (by rw [ci_1]) (by decide) (L' := [some (.ref (0)), some (.long c1), none, some (.int t6), some (.int (v2 + (1 : Int32)))]) rfl rfl) ?_
        refine gg_st (go_goto (pc' := 5) d_X12_kindNamed_36 (by decide)) ?_
        exact ih t6 (v2 + (1 : Int32))
    · refine gg_st (go_fg [none, none, none, some (.int v1), none] ⟨rfl, trivial⟩) ?_
      exact gg_end rfl
set_option maxRecDepth 20000 in
theorem k_X12_kindNamed (l : Launch) (w : Wo) (F : Nat) (p1 : Int64) (σ : St) : K l w shM m_X12_kindNamed 1 [.ref (0), .long p1] σ (f_X12_kindNamed F p1 σ) (rI σ) := by
  refine k_of (L := [some (.ref (0)), some (.long p1), none, none, none]) (plainFor_of_name (by decide +kernel)) 2 rfl (Nat.le_of_ble_eq_true rfl) ?_
  unfold f_X12_kindNamed
  refine gg_st (go_iconst d_X12_kindNamed_0 ci_m1 rfl) ?_
  refine gg_st (go_istore_n 3 d_X12_kindNamed_1 rfl (by decide) (L' := [some (.ref (0)), some (.long p1), none, some (.int (-1 : Int32)), none]) rfl rfl) ?_
  refine gg_st (go_iconst d_X12_kindNamed_2 ci_0 rfl) ?_
  refine gg_st (go_istore 4 d_X12_kindNamed_3 (by decide) (L' := [some (.ref (0)), some (.long p1), none, some (.int (-1 : Int32)), some (.int (0 : Int32))]) rfl rfl) ?_
  refine gg_bind 39 (fun (t8 : Int32) => [none, none, none, some (.int t8), none]) (fun (t8 : Int32) => []) (fun (t8 : Int32) => σ) (g_f_X12_kindNamed_L5 l w F p1 σ F (-1 : Int32) (0 : Int32)) (fun t8 => ?_)
  refine gg_st (go_iload_n 3 d_X12_kindNamed_39 rfl rfl rfl) ?_
  exact gg_iret rfl d_X12_kindNamed_40 rfl
def f_X12_manyOf_L6 (F : Nat) (c1 : Int32) (c2 : Int32) (c3 : Int32) (σ : St) : Nat → Int32 → Int32 → Option (Int32)
  | 0, _, _ => none
  | n + 1, v1, v2 =>
    if v2 < (400 : Int32) then (
      Option.bind (f_X12_agentOf c1 c2 v2 σ) fun x4 =>
      Option.bind (
        if x4 = c3 then (
          some (1 : Int32))
        else (
          some (0 : Int32))) fun t5 =>
      Option.bind (some (v1 + t5)) fun x7 =>
      f_X12_manyOf_L6 F c1 c2 c3 σ n x7 (v2 + (1 : Int32)))
    else (
      some v1)
def f_X12_manyOf (F : Nat) (p1 : Int32) (p2 : Int32) (p3 : Int32) (σ : St) : Option (Int32) :=
  Option.bind (f_X12_manyOf_L6 F p1 p2 p3 σ F (0 : Int32) (0 : Int32)) fun t8 =>
  some t8
set_option maxRecDepth 20000 in
theorem g_f_X12_manyOf_L6 (l : Launch) (w : Wo) (F : Nat) (c1 : Int32) (c2 : Int32) (c3 : Int32) (σ : St) : ∀ (n : Nat) (v1 : Int32) (v2 : Int32), GG l w shM m_X12_manyOf 2 6 [some (.ref (0)), some (.int c1), some (.int c2), some (.int c3), some (.int v1), some (.int v2)] [] σ (f_X12_manyOf_L6 F c1 c2 c3 σ n v1 v2) (fun (t : Int32) => .inl (42, [none, none, none, none, some (.int t), none], [], σ)) := by
  intro n
  induction n with
  | zero =>
    intro v1 v2
    exact gg_none
  | succ n ih =>
    intro v1 v2
    rw [f_X12_manyOf_L6]
    refine gg_st (go_iload 5 d_X12_manyOf_6 rfl rfl) ?_
    refine gg_st (go_sipush d_X12_manyOf_8 cs_400 rfl) ?_
    refine gg_br (br_icmp_ge (tgt := 42) (pc' := 14) d_X12_manyOf_11 (by decide) rfl) (fun h3 => ?_) (fun h3 => ?_)
    · refine gg_st (go_iload 4 d_X12_manyOf_14 rfl rfl) ?_
      refine gg_st (go_aload_n 0 d_X12_manyOf_16 rfl rfl rfl) ?_
      refine gg_st (go_iload_n 1 d_X12_manyOf_17 rfl rfl rfl) ?_
      refine gg_st (go_iload_n 2 d_X12_manyOf_18 rfl rfl rfl) ?_
      refine gg_st (go_iload 5 d_X12_manyOf_19 rfl rfl) ?_
      refine gv_I (k_X12_agentOf l w c1 c2 v2 σ) cv_X12_457 sM_0 (Nat.le_of_ble_eq_true rfl) rfl rfl (Nat.le_of_ble_eq_true rfl) d_X12_manyOf_21 rfl (fun x4 => ?_)
      refine gg_st (go_iload_n 3 d_X12_manyOf_24 rfl rfl rfl) ?_
      refine gg_bind 33 (fun (t5 : Int32) => [some (.ref (0)), some (.int c1), some (.int c2), some (.int c3), none, some (.int v2)]) (fun (t5 : Int32) => [.int t5, .int v1]) (fun (t5 : Int32) => σ) ?_ (fun t5 => ?_)
      · refine gg_br (br_icmp_ne (tgt := 32) (pc' := 28) d_X12_manyOf_25 (by decide) rfl) (fun h6 => ?_) (fun h6 => ?_)
        · refine gg_st (go_iconst d_X12_manyOf_28 ci_1 rfl) ?_
          refine gg_st (go_goto (pc' := 33) d_X12_manyOf_29 (by decide)) ?_
          refine gg_st (go_fg [some (.ref (0)), some (.int c1), some (.int c2), some (.int c3), none, some (.int v2)] ⟨rfl, ⟨rfl, ⟨rfl, ⟨rfl, ⟨rfl, trivial⟩⟩⟩⟩⟩) ?_
          exact gg_end rfl
        · refine gg_st (go_iconst d_X12_manyOf_32 ci_0 rfl) ?_
          refine gg_st (go_fg [some (.ref (0)), some (.int c1), some (.int c2), some (.int c3), none, some (.int v2)] ⟨rfl, ⟨rfl, ⟨rfl, ⟨rfl, ⟨rfl, trivial⟩⟩⟩⟩⟩) ?_
          exact gg_end rfl
      · refine gg_st (go_iadd d_X12_manyOf_33 rfl) ?_
        refine gg_nm (fun _ => [some (.ref (0)), some (.int c1), some (.int c2), some (.int c3), none, some (.int v2)]) (fun (x7 : Int32) => [.int x7]) (fun x7 => ?_)
        refine gg_st (go_istore 4 d_X12_manyOf_34 (by decide) (L' := [some (.ref (0)), some (.int c1), some (.int c2), some (.int c3), some (.int x7), some (.int v2)]) rfl rfl) ?_
        refine gg_st (go_iinc 5 d_X12_manyOf_36 rfl (v := v2 + (1 : Int32)) (by rw [ci_1]) (by decide) (L' := [some (.ref (0)), some (.int c1), some (.int c2), some (.int c3), some (.int x7), some (.int (v2 + (1 : Int32)))]) rfl rfl) ?_
        refine gg_st (go_goto (pc' := 6) d_X12_manyOf_39 (by decide)) ?_
        exact ih x7 (v2 + (1 : Int32))
    · refine gg_st (go_fg [none, none, none, none, some (.int v1), none] ⟨rfl, trivial⟩) ?_
      exact gg_end rfl
set_option maxRecDepth 20000 in
theorem k_X12_manyOf (l : Launch) (w : Wo) (F : Nat) (p1 : Int32) (p2 : Int32) (p3 : Int32) (σ : St) : K l w shM m_X12_manyOf 2 [.ref (0), .int p1, .int p2, .int p3] σ (f_X12_manyOf F p1 p2 p3 σ) (rI σ) := by
  refine k_of (L := [some (.ref (0)), some (.int p1), some (.int p2), some (.int p3), none, none]) (plainFor_of_name (by decide +kernel)) 2 rfl (Nat.le_of_ble_eq_true rfl) ?_
  unfold f_X12_manyOf
  refine gg_st (go_iconst d_X12_manyOf_0 ci_0 rfl) ?_
  refine gg_st (go_istore 4 d_X12_manyOf_1 (by decide) (L' := [some (.ref (0)), some (.int p1), some (.int p2), some (.int p3), some (.int (0 : Int32)), none]) rfl rfl) ?_
  refine gg_st (go_iconst d_X12_manyOf_3 ci_0 rfl) ?_
  refine gg_st (go_istore 5 d_X12_manyOf_4 (by decide) (L' := [some (.ref (0)), some (.int p1), some (.int p2), some (.int p3), some (.int (0 : Int32)), some (.int (0 : Int32))]) rfl rfl) ?_
  refine gg_bind 42 (fun (t8 : Int32) => [none, none, none, none, some (.int t8), none]) (fun (t8 : Int32) => []) (fun (t8 : Int32) => σ) (g_f_X12_manyOf_L6 l w F p1 p2 p3 σ F (0 : Int32) (0 : Int32)) (fun t8 => ?_)
  refine gg_st (go_iload 4 d_X12_manyOf_42 rfl rfl) ?_
  exact gg_iret rfl d_X12_manyOf_44 rfl
def f_X12_meet (p1 : Int32) (p2 : Int32) (σ : St) : Option (St) :=
  if 0 ≤ p2 then (
    if inb (((400 : Int32) * p1) + (p2 / (5 : Int32))) 800 then (
      if (σ.1 (50) (ix (((400 : Int32) * p1) + (p2 / (5 : Int32))))) < 0 then (
        if inb p1 2 then (
          if inb (((400 : Int32) * p1) + (p2 / (5 : Int32))) 800 then (
            Option.bind (some (seti σ (50) (ix (((400 : Int32) * p1) + (p2 / (5 : Int32)))) (σ.1 (51) (ix p1)))) fun s8 =>
            if inb p1 2 then (
              if inb (((400 : Int32) * p1) + (s8.1 (51) (ix p1))) 800 then (
                Option.bind (some (seti s8 (49) (ix (((400 : Int32) * p1) + (s8.1 (51) (ix p1)))) (p2 / (5 : Int32)))) fun s11 =>
                if inb p1 2 then (
                  if inb p1 2 then (
                    Option.bind (some (seti s11 (51) (ix p1) ((s11.1 (51) (ix p1)) + (1 : Int32)))) fun s14 =>
                    some s14)
                  else none)
                else none)
              else none)
            else none)
          else none)
        else none)
      else (
        some σ))
    else none)
  else (
    some σ)
set_option maxRecDepth 20000 in
theorem k_X12_meet (l : Launch) (w : Wo) (p1 : Int32) (p2 : Int32) (σ : St) : K l w shM m_X12_meet 1 [.ref (0), .int p1, .int p2] σ (f_X12_meet p1 p2 σ) (rV) := by
  refine k_of (L := [some (.ref (0)), some (.int p1), some (.int p2)]) (plainFor_of_name (by decide +kernel)) 0 rfl (Nat.le_of_ble_eq_true rfl) ?_
  unfold f_X12_meet
  refine gg_st (go_iload_n 2 d_X12_meet_0 rfl rfl rfl) ?_
  refine gg_br (br_if_lt (tgt := 71) (pc' := 4) d_X12_meet_1 (by decide) rfl) (fun h2 => ?_) (fun h2 => ?_)
  · refine gg_st (go_aload_n 0 d_X12_meet_4 rfl rfl rfl) ?_
    refine gg_st (go_getR (j := 79) cf12 sM_0 rfl (by decide) fl_X12_167 d_X12_meet_5 rfl) ?_
    refine gg_st (go_sipush d_X12_meet_8 cs_400 rfl) ?_
    refine gg_st (go_iload_n 1 d_X12_meet_11 rfl rfl rfl) ?_
    refine gg_st (go_imul d_X12_meet_12 rfl) ?_
    refine gg_st (go_iload_n 2 d_X12_meet_13 rfl rfl rfl) ?_
    refine gg_st (go_iconst d_X12_meet_14 ci_5 rfl) ?_
    refine gg_st (go_idiv d_X12_meet_15 (by decide) rfl) ?_
    refine gg_st (go_iadd d_X12_meet_16 rfl) ?_
    refine gg_gd (fun h3 => ?_)
    refine gg_st (go_iald sM_50 h3 d_X12_meet_17 rfl) ?_
    refine gg_br (br_if_ge (tgt := 71) (pc' := 21) d_X12_meet_18 (by decide) rfl) (fun h5 => ?_) (fun h5 => ?_)
    · refine gg_st (go_aload_n 0 d_X12_meet_21 rfl rfl rfl) ?_
      refine gg_st (go_getR (j := 79) cf12 sM_0 rfl (by decide) fl_X12_167 d_X12_meet_22 rfl) ?_
      refine gg_st (go_sipush d_X12_meet_25 cs_400 rfl) ?_
      refine gg_st (go_iload_n 1 d_X12_meet_28 rfl rfl rfl) ?_
      refine gg_st (go_imul d_X12_meet_29 rfl) ?_
      refine gg_st (go_iload_n 2 d_X12_meet_30 rfl rfl rfl) ?_
      refine gg_st (go_iconst d_X12_meet_31 ci_5 rfl) ?_
      refine gg_st (go_idiv d_X12_meet_32 (by decide) rfl) ?_
      refine gg_st (go_iadd d_X12_meet_33 rfl) ?_
      refine gg_st (go_aload_n 0 d_X12_meet_34 rfl rfl rfl) ?_
      refine gg_st (go_getR (j := 80) cf12 sM_0 rfl (by decide) fl_X12_170 d_X12_meet_35 rfl) ?_
      refine gg_st (go_iload_n 1 d_X12_meet_38 rfl rfl rfl) ?_
      refine gg_gd (fun h6 => ?_)
      refine gg_st (go_iald sM_51 h6 d_X12_meet_39 rfl) ?_
      refine gg_gd (fun h7 => ?_)
      refine gg_st (go_iast sM_50 h7 d_X12_meet_40 rfl) ?_
      refine gg_som (fun s8 => ?_)
      refine gg_st (go_aload_n 0 d_X12_meet_41 rfl rfl rfl) ?_
      refine gg_st (go_getR (j := 78) cf12 sM_0 rfl (by decide) fl_X12_164 d_X12_meet_42 rfl) ?_
      refine gg_st (go_sipush d_X12_meet_45 cs_400 rfl) ?_
      refine gg_st (go_iload_n 1 d_X12_meet_48 rfl rfl rfl) ?_
      refine gg_st (go_imul d_X12_meet_49 rfl) ?_
      refine gg_st (go_aload_n 0 d_X12_meet_50 rfl rfl rfl) ?_
      refine gg_st (go_getR (j := 80) cf12 sM_0 rfl (by decide) fl_X12_170 d_X12_meet_51 rfl) ?_
      refine gg_st (go_iload_n 1 d_X12_meet_54 rfl rfl rfl) ?_
      refine gg_gd (fun h9 => ?_)
      refine gg_st (go_iald sM_51 h9 d_X12_meet_55 rfl) ?_
      refine gg_st (go_iadd d_X12_meet_56 rfl) ?_
      refine gg_st (go_iload_n 2 d_X12_meet_57 rfl rfl rfl) ?_
      refine gg_st (go_iconst d_X12_meet_58 ci_5 rfl) ?_
      refine gg_st (go_idiv d_X12_meet_59 (by decide) rfl) ?_
      refine gg_gd (fun h10 => ?_)
      refine gg_st (go_iast sM_49 h10 d_X12_meet_60 rfl) ?_
      refine gg_som (fun s11 => ?_)
      refine gg_st (go_aload_n 0 d_X12_meet_61 rfl rfl rfl) ?_
      refine gg_st (go_getR (j := 80) cf12 sM_0 rfl (by decide) fl_X12_170 d_X12_meet_62 rfl) ?_
      refine gg_st (go_iload_n 1 d_X12_meet_65 rfl rfl rfl) ?_
      refine gg_st (go_dup2 d_X12_meet_66 rfl rfl rfl) ?_
      refine gg_gd (fun h12 => ?_)
      refine gg_st (go_iald sM_51 h12 d_X12_meet_67 rfl) ?_
      refine gg_st (go_iconst d_X12_meet_68 ci_1 rfl) ?_
      refine gg_st (go_iadd d_X12_meet_69 rfl) ?_
      refine gg_gd (fun h13 => ?_)
      refine gg_st (go_iast sM_51 h13 d_X12_meet_70 rfl) ?_
      refine gg_som (fun s14 => ?_)
      exact gg_vret rfl d_X12_meet_71 rfl
    · exact gg_vret rfl d_X12_meet_71 rfl
  · exact gg_vret rfl d_X12_meet_71 rfl
def f_X12_wireOf (p1 : Int32) (p2 : Int32) (p3 : Int32) (σ : St) : Option (Int32) :=
  if p1 = 0 then (
    if inb p3 2000 then (
      some (σ.1 (13) (ix p3)))
    else none)
  else (
    if inb (((2000 : Int32) * p2) + p3) 8000 then (
      some (σ.1 (45) (ix (((2000 : Int32) * p2) + p3))))
    else none)
set_option maxRecDepth 20000 in
theorem k_X12_wireOf (l : Launch) (w : Wo) (p1 : Int32) (p2 : Int32) (p3 : Int32) (σ : St) : K l w shM m_X12_wireOf 1 [.ref (0), .int p1, .int p2, .int p3] σ (f_X12_wireOf p1 p2 p3 σ) (rI σ) := by
  refine k_of (L := [some (.ref (0)), some (.int p1), some (.int p2), some (.int p3)]) (plainFor_of_name (by decide +kernel)) 0 rfl (Nat.le_of_ble_eq_true rfl) ?_
  unfold f_X12_wireOf
  refine gg_st (go_iload_n 1 d_X12_wireOf_0 rfl rfl rfl) ?_
  refine gg_br (br_if_ne (tgt := 13) (pc' := 4) d_X12_wireOf_1 (by decide) rfl) (fun h3 => ?_) (fun h3 => ?_)
  · refine gg_st (go_aload_n 0 d_X12_wireOf_4 rfl rfl rfl) ?_
    refine gg_st (go_getR (j := 16) cf12 sM_0 rfl (by decide) fl_X12_52 d_X12_wireOf_5 rfl) ?_
    refine gg_st (go_iload_n 3 d_X12_wireOf_8 rfl rfl rfl) ?_
    refine gg_gd (fun h4 => ?_)
    refine gg_st (go_iald sM_13 h4 d_X12_wireOf_9 rfl) ?_
    refine gg_st (go_goto (pc' := 25) d_X12_wireOf_10 (by decide)) ?_
    exact gg_iret rfl d_X12_wireOf_25 rfl
  · refine gg_st (go_aload_n 0 d_X12_wireOf_13 rfl rfl rfl) ?_
    refine gg_st (go_getR (j := 74) cf12 sM_0 rfl (by decide) fl_X12_152 d_X12_wireOf_14 rfl) ?_
    refine gg_st (go_sipush d_X12_wireOf_17 cs_2000 rfl) ?_
    refine gg_st (go_iload_n 2 d_X12_wireOf_20 rfl rfl rfl) ?_
    refine gg_st (go_imul d_X12_wireOf_21 rfl) ?_
    refine gg_st (go_iload_n 3 d_X12_wireOf_22 rfl rfl rfl) ?_
    refine gg_st (go_iadd d_X12_wireOf_23 rfl) ?_
    refine gg_gd (fun h5 => ?_)
    refine gg_st (go_iald sM_45 h5 d_X12_wireOf_24 rfl) ?_
    exact gg_iret rfl d_X12_wireOf_25 rfl
def f_X12_reach_L9 (F : Nat) (c1 : Int32) (c2 : Int32) : Nat → Int32 → St → Option (St)
  | 0, _, _ => none
  | n + 1, v3, g =>
    if v3 < (400 : Int32) then (
      if inb (((400 : Int32) * c1) + v3) 800 then (
        Option.bind (some (seti g (50) (ix (((400 : Int32) * c1) + v3)) (-1 : Int32))) fun s8 =>
        f_X12_reach_L9 F c1 c2 n (v3 + (1 : Int32)) s8)
      else none)
    else (
      some g)
def f_X12_reach_L109 (F : Nat) (c1 : Int32) (c2 : Int32) (c3 : Int32) (c4 : Int32) (c5 : Int32) (c6 : Int32) : Nat → Int32 → St → Option (St)
  | 0, _, _ => none
  | n + 1, v26, g =>
    Option.bind (f_X12_agentOf c1 c2 c6 g) fun x27 =>
    if inb x27 16 then (
      if v26 < (g.1 (3) (ix x27)) then (
        Option.bind (f_X12_wireOf c1 c2 (((5 : Int32) * c6) + v26) g) fun x30 =>
        Option.bind (f_X12_meet c1 x30 g) fun s31 =>
        f_X12_reach_L109 F c1 c2 c3 c4 c5 c6 n (v26 + (1 : Int32)) s31)
      else (
        some g))
    else none
def f_X12_reach_L79 (F : Nat) (c1 : Int32) (c2 : Int32) (c4 : Int32) (c5 : Int32) : Nat → Int32 → St → Option (Int32 × St)
  | 0, _, _ => none
  | n + 1, v19, g =>
    if inb c1 2 then (
      if v19 < (g.1 (51) (ix c1)) then (
        if inb (((400 : Int32) * c1) + v19) 800 then (
          Option.bind (some (g.1 (49) (ix (((400 : Int32) * c1) + v19)))) fun x24 =>
          Option.bind (some (v19 + (1 : Int32))) fun x25 =>
          Option.bind (f_X12_reach_L109 F c1 c2 x25 c4 c5 x24 F (0 : Int32) g) fun t32 =>
          f_X12_reach_L79 F c1 c2 c4 c5 n x25 t32)
        else none)
      else (
        some (v19, g)))
    else none
def f_X12_reach_L59 (F : Nat) (c1 : Int32) (c2 : Int32) (c4 : Int32) : Nat → Int32 → Int32 → St → Option (St)
  | 0, _, _, _ => none
  | n + 1, v14, v15, g =>
    if v15 < c4 then (
      Option.bind (f_X12_endTo c1 c2 v15 g) fun x17 =>
      Option.bind (f_X12_meet c1 x17 g) fun s18 =>
      Option.bind (f_X12_reach_L79 F c1 c2 c4 v15 F v14 s18) fun t33 =>
      f_X12_reach_L59 F c1 c2 c4 n t33.1 (v15 + (1 : Int32)) t33.2)
    else (
      some g)
def f_X12_reach (F : Nat) (p1 : Int32) (p2 : Int32) (σ : St) : Option (St) :=
  if inb p1 2 then (
    Option.bind (some (seti σ (51) (ix p1) (0 : Int32))) fun s2 =>
    Option.bind (f_X12_reach_L9 F p1 p2 F (0 : Int32) s2) fun t9 =>
    Option.bind (
      if p1 = 0 then (
        some (t9.1 (0) 18))
      else (
        if inb p2 4 then (
          some (t9.1 (47) (ix p2)))
        else none)) fun t10 =>
    Option.bind (f_X12_reach_L59 F p1 p2 t10 F (0 : Int32) (0 : Int32) t9) fun t34 =>
    some t34)
  else none
set_option maxRecDepth 20000 in
theorem g_f_X12_reach_L9 (l : Launch) (w : Wo) (F : Nat) (c1 : Int32) (c2 : Int32) : ∀ (n : Nat) (v3 : Int32) (g : St), GG l w shM m_X12_reach 2 9 [some (.ref (0)), some (.int c1), some (.int c2), some (.int v3), none, none, none, none] [] g (f_X12_reach_L9 F c1 c2 n v3 g) (fun (t : St) => .inl (35, [some (.ref (0)), some (.int c1), some (.int c2), none, none, none, none, none], [], t)) := by
  intro n
  induction n with
  | zero =>
    intro v3 g
    exact gg_none
  | succ n ih =>
    intro v3 g
    rw [f_X12_reach_L9]
    refine gg_st (go_iload_n 3 d_X12_reach_9 rfl rfl rfl) ?_
    refine gg_st (go_sipush d_X12_reach_10 cs_400 rfl) ?_
    refine gg_br (br_icmp_ge (tgt := 35) (pc' := 16) d_X12_reach_13 (by decide) rfl) (fun h6 => ?_) (fun h6 => ?_)
    · refine gg_st (go_aload_n 0 d_X12_reach_16 rfl rfl rfl) ?_
      refine gg_st (go_getR (j := 79) cf12 sM_0 rfl (by decide) fl_X12_167 d_X12_reach_17 rfl) ?_
      refine gg_st (go_sipush d_X12_reach_20 cs_400 rfl) ?_
      refine gg_st (go_iload_n 1 d_X12_reach_23 rfl rfl rfl) ?_
      refine gg_st (go_imul d_X12_reach_24 rfl) ?_
      refine gg_st (go_iload_n 3 d_X12_reach_25 rfl rfl rfl) ?_
      refine gg_st (go_iadd d_X12_reach_26 rfl) ?_
      refine gg_st (go_iconst d_X12_reach_27 ci_m1 rfl) ?_
      refine gg_gd (fun h7 => ?_)
      refine gg_st (go_iast sM_50 h7 d_X12_reach_28 rfl) ?_
      refine gg_som (fun s8 => ?_)
      refine gg_st (go_iinc 3 d_X12_reach_29 rfl (v := v3 + (1 : Int32)) (by rw [ci_1]) (by decide) (L' := [some (.ref (0)), some (.int c1), some (.int c2), some (.int (v3 + (1 : Int32))), none, none, none, none]) rfl rfl) ?_
      refine gg_st (go_goto (pc' := 9) d_X12_reach_32 (by decide)) ?_
      exact ih (v3 + (1 : Int32)) s8
    · refine gg_st (go_fg [some (.ref (0)), some (.int c1), some (.int c2), none, none, none, none, none] ⟨rfl, ⟨rfl, ⟨rfl, trivial⟩⟩⟩) ?_
      exact gg_end rfl
set_option maxRecDepth 20000 in
theorem g_f_X12_reach_L109 (l : Launch) (w : Wo) (F : Nat) (c1 : Int32) (c2 : Int32) (c3 : Int32) (c4 : Int32) (c5 : Int32) (c6 : Int32) : ∀ (n : Nat) (v26 : Int32) (g : St), GG l w shM m_X12_reach 2 109 [some (.ref (0)), some (.int c1), some (.int c2), some (.int c3), some (.int c4), some (.int c5), some (.int c6), some (.int v26)] [] g (f_X12_reach_L109 F c1 c2 c3 c4 c5 c6 n v26 g) (fun (t : St) => .inl (151, [some (.ref (0)), some (.int c1), some (.int c2), some (.int c3), some (.int c4), some (.int c5), none, none], [], t)) := by
  intro n
  induction n with
  | zero =>
    intro v26 g
    exact gg_none
  | succ n ih =>
    intro v26 g
    rw [f_X12_reach_L109]
    refine gg_st (go_iload 7 d_X12_reach_109 rfl rfl) ?_
    refine gg_st (go_aload_n 0 d_X12_reach_111 rfl rfl rfl) ?_
    refine gg_st (go_getR (j := 5) cf12 sM_0 rfl (by decide) fl_X12_21 d_X12_reach_112 rfl) ?_
    refine gg_st (go_aload_n 0 d_X12_reach_115 rfl rfl rfl) ?_
    refine gg_st (go_iload_n 1 d_X12_reach_116 rfl rfl rfl) ?_
    refine gg_st (go_iload_n 2 d_X12_reach_117 rfl rfl rfl) ?_
    refine gg_st (go_iload 6 d_X12_reach_118 rfl rfl) ?_
    refine gv_I (k_X12_agentOf l w c1 c2 c6 g) cv_X12_457 sM_0 (Nat.le_of_ble_eq_true rfl) rfl rfl (Nat.le_of_ble_eq_true rfl) d_X12_reach_120 rfl (fun x27 => ?_)
    refine gg_gd (fun h28 => ?_)
    refine gg_st (go_iald sM_3 h28 d_X12_reach_123 rfl) ?_
    refine gg_br (br_icmp_ge (tgt := 151) (pc' := 127) d_X12_reach_124 (by decide) rfl) (fun h29 => ?_) (fun h29 => ?_)
    · refine gg_st (go_aload_n 0 d_X12_reach_127 rfl rfl rfl) ?_
      refine gg_st (go_iload_n 1 d_X12_reach_128 rfl rfl rfl) ?_
      refine gg_st (go_aload_n 0 d_X12_reach_129 rfl rfl rfl) ?_
      refine gg_st (go_iload_n 1 d_X12_reach_130 rfl rfl rfl) ?_
      refine gg_st (go_iload_n 2 d_X12_reach_131 rfl rfl rfl) ?_
      refine gg_st (go_iconst d_X12_reach_132 ci_5 rfl) ?_
      refine gg_st (go_iload 6 d_X12_reach_133 rfl rfl) ?_
      refine gg_st (go_imul d_X12_reach_135 rfl) ?_
      refine gg_st (go_iload 7 d_X12_reach_136 rfl rfl) ?_
      refine gg_st (go_iadd d_X12_reach_138 rfl) ?_
      refine gv_I (k_X12_wireOf l w c1 c2 (((5 : Int32) * c6) + v26) g) cv_X12_460 sM_0 (Nat.le_of_ble_eq_true rfl) rfl rfl (Nat.le_of_ble_eq_true rfl) d_X12_reach_139 rfl (fun x30 => ?_)
      refine gv_V (k_X12_meet l w c1 x30 g) cv_X12_454 sM_0 (Nat.le_of_ble_eq_true rfl) rfl rfl (Nat.le_of_ble_eq_true rfl) d_X12_reach_142 rfl (fun s31 => ?_)
      refine gg_st (go_iinc 7 d_X12_reach_145 rfl (v := v26 + (1 : Int32)) (by rw [ci_1]) (by decide) (L' := [some (.ref (0)), some (.int c1), some (.int c2), some (.int c3), some (.int c4), some (.int c5), some (.int c6), some (.int (v26 + (1 : Int32)))]) rfl rfl) ?_
      refine gg_st (go_goto (pc' := 109) d_X12_reach_148 (by decide)) ?_
      exact ih (v26 + (1 : Int32)) s31
    · refine gg_st (go_fg [some (.ref (0)), some (.int c1), some (.int c2), some (.int c3), some (.int c4), some (.int c5), none, none] ⟨rfl, ⟨rfl, ⟨rfl, ⟨rfl, ⟨rfl, ⟨rfl, trivial⟩⟩⟩⟩⟩⟩) ?_
      exact gg_end rfl
set_option maxRecDepth 20000 in
theorem g_f_X12_reach_L79 (l : Launch) (w : Wo) (F : Nat) (c1 : Int32) (c2 : Int32) (c4 : Int32) (c5 : Int32) : ∀ (n : Nat) (v19 : Int32) (g : St), GG l w shM m_X12_reach 2 79 [some (.ref (0)), some (.int c1), some (.int c2), some (.int v19), some (.int c4), some (.int c5), none, none] [] g (f_X12_reach_L79 F c1 c2 c4 c5 n v19 g) (fun (t : Int32 × St) => .inl (154, [some (.ref (0)), some (.int c1), some (.int c2), some (.int t.1), some (.int c4), some (.int c5), none, none], [], t.2)) := by
  intro n
  induction n with
  | zero =>
    intro v19 g
    exact gg_none
  | succ n ih =>
    intro v19 g
    rw [f_X12_reach_L79]
    refine gg_st (go_iload_n 3 d_X12_reach_79 rfl rfl rfl) ?_
    refine gg_st (go_aload_n 0 d_X12_reach_80 rfl rfl rfl) ?_
    refine gg_st (go_getR (j := 80) cf12 sM_0 rfl (by decide) fl_X12_170 d_X12_reach_81 rfl) ?_
    refine gg_st (go_iload_n 1 d_X12_reach_84 rfl rfl rfl) ?_
    refine gg_gd (fun h20 => ?_)
    refine gg_st (go_iald sM_51 h20 d_X12_reach_85 rfl) ?_
    refine gg_br (br_icmp_ge (tgt := 154) (pc' := 89) d_X12_reach_86 (by decide) rfl) (fun h22 => ?_) (fun h22 => ?_)
    · refine gg_st (go_aload_n 0 d_X12_reach_89 rfl rfl rfl) ?_
      refine gg_st (go_getR (j := 78) cf12 sM_0 rfl (by decide) fl_X12_164 d_X12_reach_90 rfl) ?_
      refine gg_st (go_sipush d_X12_reach_93 cs_400 rfl) ?_
      refine gg_st (go_iload_n 1 d_X12_reach_96 rfl rfl rfl) ?_
      refine gg_st (go_imul d_X12_reach_97 rfl) ?_
      refine gg_st (go_iload_n 3 d_X12_reach_98 rfl rfl rfl) ?_
      refine gg_st (go_iadd d_X12_reach_99 rfl) ?_
      refine gg_gd (fun h23 => ?_)
      refine gg_st (go_iald sM_49 h23 d_X12_reach_100 rfl) ?_
      refine gg_nm (fun _ => [some (.ref (0)), some (.int c1), some (.int c2), some (.int v19), some (.int c4), some (.int c5), none, none]) (fun (x24 : Int32) => [.int x24]) (fun x24 => ?_)
      refine gg_st (go_istore 6 d_X12_reach_101 (by decide) (L' := [some (.ref (0)), some (.int c1), some (.int c2), some (.int v19), some (.int c4), some (.int c5), some (.int x24), none]) rfl rfl) ?_
      refine gg_st (go_iinc 3 d_X12_reach_103 rfl (v := v19 + (1 : Int32)) (by rw [ci_1]) (by decide) (L' := [some (.ref (0)), some (.int c1), some (.int c2), some (.int (v19 + (1 : Int32))), some (.int c4), some (.int c5), some (.int x24), none]) rfl rfl) ?_
      refine gg_nm (fun (x25 : Int32) => [some (.ref (0)), some (.int c1), some (.int c2), some (.int x25), some (.int c4), some (.int c5), some (.int x24), none]) (fun _ => []) (fun x25 => ?_)
      refine gg_st (go_iconst d_X12_reach_106 ci_0 rfl) ?_
      refine gg_st (go_istore 7 d_X12_reach_107 (by decide) (L' := [some (.ref (0)), some (.int c1), some (.int c2), some (.int x25), some (.int c4), some (.int c5), some (.int x24), some (.int (0 : Int32))]) rfl rfl) ?_
      refine gg_bind 151 (fun (t32 : St) => [some (.ref (0)), some (.int c1), some (.int c2), some (.int x25), some (.int c4), some (.int c5), none, none]) (fun (t32 : St) => []) (fun (t32 : St) => t32) (g_f_X12_reach_L109 l w F c1 c2 x25 c4 c5 x24 F (0 : Int32) g) (fun t32 => ?_)
      refine gg_st (go_goto (pc' := 79) d_X12_reach_151 (by decide)) ?_
      exact ih x25 t32
    · exact gg_end rfl
set_option maxRecDepth 20000 in
theorem g_f_X12_reach_L59 (l : Launch) (w : Wo) (F : Nat) (c1 : Int32) (c2 : Int32) (c4 : Int32) : ∀ (n : Nat) (v14 : Int32) (v15 : Int32) (g : St), GG l w shM m_X12_reach 2 59 [some (.ref (0)), some (.int c1), some (.int c2), some (.int v14), some (.int c4), some (.int v15), none, none] [] g (f_X12_reach_L59 F c1 c2 c4 n v14 v15 g) (fun (t : St) => .inl (160, [none, none, none, none, none, none, none, none], [], t)) := by
  intro n
  induction n with
  | zero =>
    intro v14 v15 g
    exact gg_none
  | succ n ih =>
    intro v14 v15 g
    rw [f_X12_reach_L59]
    refine gg_st (go_iload 5 d_X12_reach_59 rfl rfl) ?_
    refine gg_st (go_iload 4 d_X12_reach_61 rfl rfl) ?_
    refine gg_br (br_icmp_ge (tgt := 160) (pc' := 66) d_X12_reach_63 (by decide) rfl) (fun h16 => ?_) (fun h16 => ?_)
    · refine gg_st (go_aload_n 0 d_X12_reach_66 rfl rfl rfl) ?_
      refine gg_st (go_iload_n 1 d_X12_reach_67 rfl rfl rfl) ?_
      refine gg_st (go_aload_n 0 d_X12_reach_68 rfl rfl rfl) ?_
      refine gg_st (go_iload_n 1 d_X12_reach_69 rfl rfl rfl) ?_
      refine gg_st (go_iload_n 2 d_X12_reach_70 rfl rfl rfl) ?_
      refine gg_st (go_iload 5 d_X12_reach_71 rfl rfl) ?_
      refine gv_I (k_X12_endTo l w c1 c2 v15 g) cv_X12_450 sM_0 (Nat.le_of_ble_eq_true rfl) rfl rfl (Nat.le_of_ble_eq_true rfl) d_X12_reach_73 rfl (fun x17 => ?_)
      refine gv_V (k_X12_meet l w c1 x17 g) cv_X12_454 sM_0 (Nat.le_of_ble_eq_true rfl) rfl rfl (Nat.le_of_ble_eq_true rfl) d_X12_reach_76 rfl (fun s18 => ?_)
      refine gg_bind 154 (fun (t33 : Int32 × St) => [some (.ref (0)), some (.int c1), some (.int c2), some (.int t33.1), some (.int c4), some (.int v15), none, none]) (fun (t33 : Int32 × St) => []) (fun (t33 : Int32 × St) => t33.2) (g_f_X12_reach_L79 l w F c1 c2 c4 v15 F v14 s18) (fun t33 => ?_)
      refine gg_st (go_iinc 5 d_X12_reach_154 rfl (v := v15 + (1 : Int32)) (by rw [ci_1]) (by decide) (L' := [some (.ref (0)), some (.int c1), some (.int c2), some (.int t33.1), some (.int c4), some (.int (v15 + (1 : Int32))), none, none]) rfl rfl) ?_
      refine gg_st (go_goto (pc' := 59) d_X12_reach_157 (by decide)) ?_
      exact ih t33.1 (v15 + (1 : Int32)) t33.2
    · refine gg_st (go_fg [none, none, none, none, none, none, none, none] trivial) ?_
      exact gg_end rfl
set_option maxRecDepth 20000 in
theorem k_X12_reach (l : Launch) (w : Wo) (F : Nat) (p1 : Int32) (p2 : Int32) (σ : St) : K l w shM m_X12_reach 2 [.ref (0), .int p1, .int p2] σ (f_X12_reach F p1 p2 σ) (rV) := by
  refine k_of (L := [some (.ref (0)), some (.int p1), some (.int p2), none, none, none, none, none]) (plainFor_of_name (by decide +kernel)) 5 rfl (Nat.le_of_ble_eq_true rfl) ?_
  unfold f_X12_reach
  refine gg_st (go_aload_n 0 d_X12_reach_0 rfl rfl rfl) ?_
  refine gg_st (go_getR (j := 80) cf12 sM_0 rfl (by decide) fl_X12_170 d_X12_reach_1 rfl) ?_
  refine gg_st (go_iload_n 1 d_X12_reach_4 rfl rfl rfl) ?_
  refine gg_st (go_iconst d_X12_reach_5 ci_0 rfl) ?_
  refine gg_gd (fun h1 => ?_)
  refine gg_st (go_iast sM_51 h1 d_X12_reach_6 rfl) ?_
  refine gg_som (fun s2 => ?_)
  refine gg_st (go_iconst d_X12_reach_7 ci_0 rfl) ?_
  refine gg_st (go_istore_n 3 d_X12_reach_8 rfl (by decide) (L' := [some (.ref (0)), some (.int p1), some (.int p2), some (.int (0 : Int32)), none, none, none, none]) rfl rfl) ?_
  refine gg_bind 35 (fun (t9 : St) => [some (.ref (0)), some (.int p1), some (.int p2), none, none, none, none, none]) (fun (t9 : St) => []) (fun (t9 : St) => t9) (g_f_X12_reach_L9 l w F p1 p2 F (0 : Int32) s2) (fun t9 => ?_)
  refine gg_st (go_iconst d_X12_reach_35 ci_0 rfl) ?_
  refine gg_st (go_istore_n 3 d_X12_reach_36 rfl (by decide) (L' := [some (.ref (0)), some (.int p1), some (.int p2), some (.int (0 : Int32)), none, none, none, none]) rfl rfl) ?_
  refine gg_st (go_iload_n 1 d_X12_reach_37 rfl rfl rfl) ?_
  refine gg_bind 54 (fun (t10 : Int32) => [some (.ref (0)), some (.int p1), some (.int p2), some (.int (0 : Int32)), none, none, none, none]) (fun (t10 : Int32) => [.int t10]) (fun (t10 : Int32) => t9) ?_ (fun t10 => ?_)
  · refine gg_br (br_if_ne (tgt := 48) (pc' := 41) d_X12_reach_38 (by decide) rfl) (fun h12 => ?_) (fun h12 => ?_)
    · refine gg_st (go_aload_n 0 d_X12_reach_41 rfl rfl rfl) ?_
      refine gg_st (go_getI (j := 18) cf12 sM_0 rfl (by decide) fl_X12_182 d_X12_reach_42 rfl) ?_
      refine gg_st (go_goto (pc' := 54) d_X12_reach_45 (by decide)) ?_
      exact gg_end rfl
    · refine gg_st (go_aload_n 0 d_X12_reach_48 rfl rfl rfl) ?_
      refine gg_st (go_getR (j := 76) cf12 sM_0 rfl (by decide) fl_X12_158 d_X12_reach_49 rfl) ?_
      refine gg_st (go_iload_n 2 d_X12_reach_52 rfl rfl rfl) ?_
      refine gg_gd (fun h13 => ?_)
      refine gg_st (go_iald sM_47 h13 d_X12_reach_53 rfl) ?_
      exact gg_end rfl
  · refine gg_st (go_istore 4 d_X12_reach_54 (by decide) (L' := [some (.ref (0)), some (.int p1), some (.int p2), some (.int (0 : Int32)), some (.int t10), none, none, none]) rfl rfl) ?_
    refine gg_st (go_iconst d_X12_reach_56 ci_0 rfl) ?_
    refine gg_st (go_istore 5 d_X12_reach_57 (by decide) (L' := [some (.ref (0)), some (.int p1), some (.int p2), some (.int (0 : Int32)), some (.int t10), some (.int (0 : Int32)), none, none]) rfl rfl) ?_
    refine gg_bind 160 (fun (t34 : St) => [none, none, none, none, none, none, none, none]) (fun (t34 : St) => []) (fun (t34 : St) => t34) (g_f_X12_reach_L59 l w F p1 p2 t10 F (0 : Int32) (0 : Int32) t9) (fun t34 => ?_)
    exact gg_vret rfl d_X12_reach_160 rfl
def f_X12_like_L85 (F : Nat) (c1 : Int32) (σ : St) : Nat → Int32 → Int32 → Option (Int32)
  | 0, _, _ => none
  | n + 1, v19, v20 =>
    if (v20 < (σ.1 (0) 3)) ∧ (¬ (v19 = 0)) then (
      Option.bind (f_X12_manyOf F (0 : Int32) c1 v20 σ) fun x21 =>
      Option.bind (f_X12_manyOf F (1 : Int32) c1 v20 σ) fun x22 =>
      Option.bind (
        if x21 = x22 then (
          some (1 : Int32))
        else (
          some (0 : Int32))) fun t23 =>
      f_X12_like_L85 F c1 σ n t23 (v20 + (1 : Int32)))
    else (
      some v19)
def f_X12_like_L128 (F : Nat) (c1 : Int32) (σ : St) : Nat → Int32 → Int32 → Option (Int32)
  | 0, _, _ => none
  | n + 1, v30, v31 =>
    if (v31 < (σ.1 (0) 18)) ∧ (¬ (v30 = 0)) then (
      if inb v31 8 then (
        Option.bind (f_X12_asReached (0 : Int32) (σ.1 (14) (ix v31)) σ) fun x34 =>
        Option.bind (f_X12_endTo (1 : Int32) c1 v31 σ) fun x35 =>
        Option.bind (f_X12_asReached (1 : Int32) x35 σ) fun x36 =>
        Option.bind (
          if x34 = x36 then (
            some (1 : Int32))
          else (
            some (0 : Int32))) fun t37 =>
        f_X12_like_L128 F c1 σ n t37 (v31 + (1 : Int32)))
      else none)
    else (
      some v30)
def f_X12_like_L241 (F : Nat) (c1 : Int32) (c3 : Int32) (c4 : Int32) (c5 : Int32) (σ : St) : Nat → Int32 → Int32 → Option (Int32)
  | 0, _, _ => none
  | n + 1, v55, v56 =>
    if v55 = 0 then (
      some v55)
    else (
      if inb c4 400 then (
        if inb (σ.1 (12) (ix c4)) 16 then (
          if v56 < (σ.1 (3) (ix (σ.1 (12) (ix c4)))) then (
            if inb (((5 : Int32) * c4) + v56) 2000 then (
              Option.bind (f_X12_asReached (0 : Int32) (σ.1 (13) (ix (((5 : Int32) * c4) + v56))) σ) fun x64 =>
              Option.bind (f_X12_wireOf (1 : Int32) c1 (((5 : Int32) * c5) + v56) σ) fun x65 =>
              Option.bind (f_X12_asReached (1 : Int32) x65 σ) fun x66 =>
              Option.bind (
                if x64 = x66 then (
                  some (1 : Int32))
                else (
                  some (0 : Int32))) fun t67 =>
              f_X12_like_L241 F c1 c3 c4 c5 σ n t67 (v56 + (1 : Int32)))
            else none)
          else (
            some v55))
        else none)
      else none)
def f_X12_like_L180 (F : Nat) (c1 : Int32) (σ : St) : Nat → Int32 → Int32 → Option (Int32)
  | 0, _, _ => none
  | n + 1, v44, v45 =>
    if (v45 < (σ.1 (51) (ix (0 : Int32)))) ∧ (¬ (v44 = 0)) then (
      if inb v45 800 then (
        Option.bind (some (σ.1 (49) (ix v45))) fun x48 =>
        if inb ((400 : Int32) + v45) 800 then (
          Option.bind (some (σ.1 (49) (ix ((400 : Int32) + v45)))) fun x50 =>
          if inb x48 400 then (
            Option.bind (f_X12_agentOf (1 : Int32) c1 x50 σ) fun x52 =>
            Option.bind (
              if (σ.1 (12) (ix x48)) = x52 then (
                some (1 : Int32))
              else (
                some (0 : Int32))) fun t53 =>
            Option.bind (f_X12_like_L241 F c1 v45 x48 x50 σ F t53 (0 : Int32)) fun t69 =>
            f_X12_like_L180 F c1 σ n t69 (v45 + (1 : Int32)))
          else none)
        else none)
      else none)
    else (
      some v44)
def f_X12_like (F : Nat) (p1 : Int32) (σ : St) : Option (Int32 × St) :=
  Option.bind (f_X12_isShelf p1) fun x1 =>
  if x1 = 0 then (
    some ((-1001 : Int32), σ))
  else (
    if inb p1 4 then (
      if (σ.1 (47) (ix p1)) < 0 then (
        some ((-1003 : Int32), σ))
      else (
        Option.bind (f_X12_reach F (0 : Int32) p1 σ) fun s6 =>
        Option.bind (f_X12_reach F (1 : Int32) p1 s6) fun s7 =>
        if inb p1 4 then (
          Option.bind (
            Option.bind (some (fun (t11 : Unit) =>
              some (0 : Int32))) fun jp12 =>
            if (s7.1 (0) 18) = (s7.1 (47) (ix p1)) then (
              if inb p1 4 then (
                if ((s7.1 (0) 19) = (s7.1 (48) (ix p1))) ∧ ((s7.1 (51) (ix (0 : Int32))) = (s7.1 (51) (ix (1 : Int32)))) then (
                  some (1 : Int32))
                else (
                  jp12 ()))
              else none)
            else (
              jp12 ())) fun t9 =>
          Option.bind (f_X12_like_L85 F p1 s7 F t9 (0 : Int32)) fun t29 =>
          Option.bind (f_X12_like_L128 F p1 s7 F t29 (0 : Int32)) fun t43 =>
          Option.bind (f_X12_like_L180 F p1 s7 F t43 (0 : Int32)) fun t74 =>
          if t74 = 0 then (
            some ((0 : Int32), s7))
          else (
            some ((1 : Int32), s7)))
        else none))
    else none)
set_option maxRecDepth 20000 in
theorem g_f_X12_like_L85 (l : Launch) (w : Wo) (F : Nat) (c1 : Int32) (σ : St) : ∀ (n : Nat) (v19 : Int32) (v20 : Int32), GG l w shM m_X12_like 3 85 [some (.ref (0)), some (.int c1), some (.int v19), some (.int v20), none, none, none] [] σ (f_X12_like_L85 F c1 σ n v19 v20) (fun (t : Int32) => .inl (126, [some (.ref (0)), some (.int c1), some (.int t), none, none, none, none], [], σ)) := by
  intro n
  induction n with
  | zero =>
    intro v19 v20
    exact gg_none
  | succ n ih =>
    intro v19 v20
    rw [f_X12_like_L85]
    refine gg_st (go_iload_n 3 d_X12_like_85 rfl rfl rfl) ?_
    refine gg_st (go_aload_n 0 d_X12_like_86 rfl rfl rfl) ?_
    refine gg_st (go_getI (j := 3) cf12 sM_0 rfl (by decide) fl_X12_354 d_X12_like_87 rfl) ?_
    refine gg_two (c := (v20 < (σ.1 (0) 3)) ∧ (¬ (v19 = 0))) (pA := 97) (pB := 126) (LL := [some (.ref (0)), some (.int c1), some (.int v19), some (.int v20), none, none, none]) (ss := []) ?_ ?_ (fun hA25 hB26 => ?_)
    · refine gg_st (go_aload_n 0 d_X12_like_97 rfl rfl rfl) ?_
      refine gg_st (go_iconst d_X12_like_98 ci_0 rfl) ?_
      refine gg_st (go_iload_n 1 d_X12_like_99 rfl rfl rfl) ?_
      refine gg_st (go_iload_n 3 d_X12_like_100 rfl rfl rfl) ?_
      refine gv_I (k_X12_manyOf l w F (0 : Int32) c1 v20 σ) cv_X12_466 sM_0 (Nat.le_of_ble_eq_true rfl) rfl rfl (Nat.le_of_ble_eq_true rfl) d_X12_like_101 rfl (fun x21 => ?_)
      refine gg_st (go_aload_n 0 d_X12_like_104 rfl rfl rfl) ?_
      refine gg_st (go_iconst d_X12_like_105 ci_1 rfl) ?_
      refine gg_st (go_iload_n 1 d_X12_like_106 rfl rfl rfl) ?_
      refine gg_st (go_iload_n 3 d_X12_like_107 rfl rfl rfl) ?_
      refine gv_I (k_X12_manyOf l w F (1 : Int32) c1 v20 σ) cv_X12_466 sM_0 (Nat.le_of_ble_eq_true rfl) rfl rfl (Nat.le_of_ble_eq_true rfl) d_X12_like_108 rfl (fun x22 => ?_)
      refine gg_bind 119 (fun (t23 : Int32) => [some (.ref (0)), some (.int c1), none, some (.int v20), none, none, none]) (fun (t23 : Int32) => [.int t23]) (fun (t23 : Int32) => σ) ?_ (fun t23 => ?_)
      · refine gg_br (br_icmp_ne (tgt := 118) (pc' := 114) d_X12_like_111 (by decide) rfl) (fun h24 => ?_) (fun h24 => ?_)
        · refine gg_st (go_iconst d_X12_like_114 ci_1 rfl) ?_
          refine gg_st (go_goto (pc' := 119) d_X12_like_115 (by decide)) ?_
          refine gg_st (go_fg [some (.ref (0)), some (.int c1), none, some (.int v20), none, none, none] ⟨rfl, ⟨rfl, ⟨rfl, trivial⟩⟩⟩) ?_
          exact gg_end rfl
        · refine gg_st (go_iconst d_X12_like_118 ci_0 rfl) ?_
          refine gg_st (go_fg [some (.ref (0)), some (.int c1), none, some (.int v20), none, none, none] ⟨rfl, ⟨rfl, ⟨rfl, trivial⟩⟩⟩) ?_
          exact gg_end rfl
      · refine gg_st (go_istore_n 2 d_X12_like_119 rfl (by decide) (L' := [some (.ref (0)), some (.int c1), some (.int t23), some (.int v20), none, none, none]) rfl rfl) ?_
        refine gg_st (go_iinc 3 d_X12_like_120 rfl (v := v20 + (1 : Int32)) (by rw [ci_1]) (by decide) (L' := [some (.ref (0)), some (.int c1), some (.int t23), some (.int (v20 + (1 : Int32))), none, none, none]) rfl rfl) ?_
        refine gg_st (go_goto (pc' := 85) d_X12_like_123 (by decide)) ?_
        exact ih t23 (v20 + (1 : Int32))
    · refine gg_st (go_fg [some (.ref (0)), some (.int c1), some (.int v19), none, none, none, none] ⟨rfl, ⟨rfl, ⟨rfl, trivial⟩⟩⟩) ?_
      exact gg_end rfl
    refine gg_brs (br_icmp_ge (tgt := 126) (pc' := 93) d_X12_like_90 (by decide) rfl) (fun h27 => ?_) (fun h27 => ?_)
    · refine gg_st (go_iload_n 2 d_X12_like_93 rfl rfl rfl) ?_
      refine gg_brs (br_if_eq (tgt := 126) (pc' := 97) d_X12_like_94 (by decide) rfl) (fun h28 => ?_) (fun h28 => ?_)
      · exact gg_eq (if_neg (fun z => (fun z => z h28) z.2)) hB26
      · exact gg_eq (if_pos ⟨h27, h28⟩) hA25
    · exact gg_eq (if_neg (fun z => h27 z.1)) hB26
set_option maxRecDepth 20000 in
theorem g_f_X12_like_L128 (l : Launch) (w : Wo) (F : Nat) (c1 : Int32) (σ : St) : ∀ (n : Nat) (v30 : Int32) (v31 : Int32), GG l w shM m_X12_like 3 128 [some (.ref (0)), some (.int c1), some (.int v30), some (.int v31), none, none, none] [] σ (f_X12_like_L128 F c1 σ n v30 v31) (fun (t : Int32) => .inl (178, [some (.ref (0)), some (.int c1), some (.int t), none, none, none, none], [], σ)) := by
  intro n
  induction n with
  | zero =>
    intro v30 v31
    exact gg_none
  | succ n ih =>
    intro v30 v31
    rw [f_X12_like_L128]
    refine gg_st (go_iload_n 3 d_X12_like_128 rfl rfl rfl) ?_
    refine gg_st (go_aload_n 0 d_X12_like_129 rfl rfl rfl) ?_
    refine gg_st (go_getI (j := 18) cf12 sM_0 rfl (by decide) fl_X12_182 d_X12_like_130 rfl) ?_
    refine gg_two (c := (v31 < (σ.1 (0) 18)) ∧ (¬ (v30 = 0))) (pA := 140) (pB := 178) (LL := [some (.ref (0)), some (.int c1), some (.int v30), some (.int v31), none, none, none]) (ss := []) ?_ ?_ (fun hA39 hB40 => ?_)
    · refine gg_st (go_aload_n 0 d_X12_like_140 rfl rfl rfl) ?_
      refine gg_st (go_iconst d_X12_like_141 ci_0 rfl) ?_
      refine gg_st (go_aload_n 0 d_X12_like_142 rfl rfl rfl) ?_
      refine gg_st (go_getR (j := 17) cf12 sM_0 rfl (by decide) fl_X12_55 d_X12_like_143 rfl) ?_
      refine gg_st (go_iload_n 3 d_X12_like_146 rfl rfl rfl) ?_
      refine gg_gd (fun h33 => ?_)
      refine gg_st (go_iald sM_14 h33 d_X12_like_147 rfl) ?_
      refine gv_I (k_X12_asReached l w (0 : Int32) (σ.1 (14) (ix v31)) σ) cv_X12_469 sM_0 (Nat.le_of_ble_eq_true rfl) rfl rfl (Nat.le_of_ble_eq_true rfl) d_X12_like_148 rfl (fun x34 => ?_)
      refine gg_st (go_aload_n 0 d_X12_like_151 rfl rfl rfl) ?_
      refine gg_st (go_iconst d_X12_like_152 ci_1 rfl) ?_
      refine gg_st (go_aload_n 0 d_X12_like_153 rfl rfl rfl) ?_
      refine gg_st (go_iconst d_X12_like_154 ci_1 rfl) ?_
      refine gg_st (go_iload_n 1 d_X12_like_155 rfl rfl rfl) ?_
      refine gg_st (go_iload_n 3 d_X12_like_156 rfl rfl rfl) ?_
      refine gv_I (k_X12_endTo l w (1 : Int32) c1 v31 σ) cv_X12_450 sM_0 (Nat.le_of_ble_eq_true rfl) rfl rfl (Nat.le_of_ble_eq_true rfl) d_X12_like_157 rfl (fun x35 => ?_)
      refine gv_I (k_X12_asReached l w (1 : Int32) x35 σ) cv_X12_469 sM_0 (Nat.le_of_ble_eq_true rfl) rfl rfl (Nat.le_of_ble_eq_true rfl) d_X12_like_160 rfl (fun x36 => ?_)
      refine gg_bind 171 (fun (t37 : Int32) => [some (.ref (0)), some (.int c1), none, some (.int v31), none, none, none]) (fun (t37 : Int32) => [.int t37]) (fun (t37 : Int32) => σ) ?_ (fun t37 => ?_)
      · refine gg_br (br_icmp_ne (tgt := 170) (pc' := 166) d_X12_like_163 (by decide) rfl) (fun h38 => ?_) (fun h38 => ?_)
        · refine gg_st (go_iconst d_X12_like_166 ci_1 rfl) ?_
          refine gg_st (go_goto (pc' := 171) d_X12_like_167 (by decide)) ?_
          refine gg_st (go_fg [some (.ref (0)), some (.int c1), none, some (.int v31), none, none, none] ⟨rfl, ⟨rfl, ⟨rfl, trivial⟩⟩⟩) ?_
          exact gg_end rfl
        · refine gg_st (go_iconst d_X12_like_170 ci_0 rfl) ?_
          refine gg_st (go_fg [some (.ref (0)), some (.int c1), none, some (.int v31), none, none, none] ⟨rfl, ⟨rfl, ⟨rfl, trivial⟩⟩⟩) ?_
          exact gg_end rfl
      · refine gg_st (go_istore_n 2 d_X12_like_171 rfl (by decide) (L' := [some (.ref (0)), some (.int c1), some (.int t37), some (.int v31), none, none, none]) rfl rfl) ?_
        refine gg_st (go_iinc 3 d_X12_like_172 rfl (v := v31 + (1 : Int32)) (by rw [ci_1]) (by decide) (L' := [some (.ref (0)), some (.int c1), some (.int t37), some (.int (v31 + (1 : Int32))), none, none, none]) rfl rfl) ?_
        refine gg_st (go_goto (pc' := 128) d_X12_like_175 (by decide)) ?_
        exact ih t37 (v31 + (1 : Int32))
    · refine gg_st (go_fg [some (.ref (0)), some (.int c1), some (.int v30), none, none, none, none] ⟨rfl, ⟨rfl, ⟨rfl, trivial⟩⟩⟩) ?_
      exact gg_end rfl
    refine gg_brs (br_icmp_ge (tgt := 178) (pc' := 136) d_X12_like_133 (by decide) rfl) (fun h41 => ?_) (fun h41 => ?_)
    · refine gg_st (go_iload_n 2 d_X12_like_136 rfl rfl rfl) ?_
      refine gg_brs (br_if_eq (tgt := 178) (pc' := 140) d_X12_like_137 (by decide) rfl) (fun h42 => ?_) (fun h42 => ?_)
      · exact gg_eq (if_neg (fun z => (fun z => z h42) z.2)) hB40
      · exact gg_eq (if_pos ⟨h41, h42⟩) hA39
    · exact gg_eq (if_neg (fun z => h41 z.1)) hB40
set_option maxRecDepth 20000 in
theorem g_f_X12_like_L241 (l : Launch) (w : Wo) (F : Nat) (c1 : Int32) (c3 : Int32) (c4 : Int32) (c5 : Int32) (σ : St) : ∀ (n : Nat) (v55 : Int32) (v56 : Int32), GG l w shM m_X12_like 3 241 [some (.ref (0)), some (.int c1), some (.int v55), some (.int c3), some (.int c4), some (.int c5), some (.int v56)] [] σ (f_X12_like_L241 F c1 c3 c4 c5 σ n v55 v56) (fun (t : Int32) => .inl (312, [some (.ref (0)), some (.int c1), some (.int t), some (.int c3), none, none, none], [], σ)) := by
  intro n
  induction n with
  | zero =>
    intro v55 v56
    exact gg_none
  | succ n ih =>
    intro v55 v56
    rw [f_X12_like_L241]
    refine gg_st (go_iload_n 2 d_X12_like_241 rfl rfl rfl) ?_
    refine gg_br (br_if_eq (tgt := 312) (pc' := 245) d_X12_like_242 (by decide) rfl) (fun h58 => ?_) (fun h58 => ?_)
    · refine gg_st (go_fg [some (.ref (0)), some (.int c1), some (.int v55), some (.int c3), none, none, none] ⟨rfl, ⟨rfl, ⟨rfl, ⟨rfl, trivial⟩⟩⟩⟩) ?_
      exact gg_end rfl
    · refine gg_st (go_iload 6 d_X12_like_245 rfl rfl) ?_
      refine gg_st (go_aload_n 0 d_X12_like_247 rfl rfl rfl) ?_
      refine gg_st (go_getR (j := 5) cf12 sM_0 rfl (by decide) fl_X12_21 d_X12_like_248 rfl) ?_
      refine gg_st (go_aload_n 0 d_X12_like_251 rfl rfl rfl) ?_
      refine gg_st (go_getR (j := 15) cf12 sM_0 rfl (by decide) fl_X12_49 d_X12_like_252 rfl) ?_
      refine gg_st (go_iload 4 d_X12_like_255 rfl rfl) ?_
      refine gg_gd (fun h59 => ?_)
      refine gg_st (go_iald sM_12 h59 d_X12_like_257 rfl) ?_
      refine gg_gd (fun h60 => ?_)
      refine gg_st (go_iald sM_3 h60 d_X12_like_258 rfl) ?_
      refine gg_br (br_icmp_ge (tgt := 312) (pc' := 262) d_X12_like_259 (by decide) rfl) (fun h62 => ?_) (fun h62 => ?_)
      · refine gg_st (go_aload_n 0 d_X12_like_262 rfl rfl rfl) ?_
        refine gg_st (go_iconst d_X12_like_263 ci_0 rfl) ?_
        refine gg_st (go_aload_n 0 d_X12_like_264 rfl rfl rfl) ?_
        refine gg_st (go_getR (j := 16) cf12 sM_0 rfl (by decide) fl_X12_52 d_X12_like_265 rfl) ?_
        refine gg_st (go_iconst d_X12_like_268 ci_5 rfl) ?_
        refine gg_st (go_iload 4 d_X12_like_269 rfl rfl) ?_
        refine gg_st (go_imul d_X12_like_271 rfl) ?_
        refine gg_st (go_iload 6 d_X12_like_272 rfl rfl) ?_
        refine gg_st (go_iadd d_X12_like_274 rfl) ?_
        refine gg_gd (fun h63 => ?_)
        refine gg_st (go_iald sM_13 h63 d_X12_like_275 rfl) ?_
        refine gv_I (k_X12_asReached l w (0 : Int32) (σ.1 (13) (ix (((5 : Int32) * c4) + v56))) σ) cv_X12_469 sM_0 (Nat.le_of_ble_eq_true rfl) rfl rfl (Nat.le_of_ble_eq_true rfl) d_X12_like_276 rfl (fun x64 => ?_)
        refine gg_st (go_aload_n 0 d_X12_like_279 rfl rfl rfl) ?_
        refine gg_st (go_iconst d_X12_like_280 ci_1 rfl) ?_
        refine gg_st (go_aload_n 0 d_X12_like_281 rfl rfl rfl) ?_
        refine gg_st (go_iconst d_X12_like_282 ci_1 rfl) ?_
        refine gg_st (go_iload_n 1 d_X12_like_283 rfl rfl rfl) ?_
        refine gg_st (go_iconst d_X12_like_284 ci_5 rfl) ?_
        refine gg_st (go_iload 5 d_X12_like_285 rfl rfl) ?_
        refine gg_st (go_imul d_X12_like_287 rfl) ?_
        refine gg_st (go_iload 6 d_X12_like_288 rfl rfl) ?_
        refine gg_st (go_iadd d_X12_like_290 rfl) ?_
        refine gv_I (k_X12_wireOf l w (1 : Int32) c1 (((5 : Int32) * c5) + v56) σ) cv_X12_460 sM_0 (Nat.le_of_ble_eq_true rfl) rfl rfl (Nat.le_of_ble_eq_true rfl) d_X12_like_291 rfl (fun x65 => ?_)
        refine gv_I (k_X12_asReached l w (1 : Int32) x65 σ) cv_X12_469 sM_0 (Nat.le_of_ble_eq_true rfl) rfl rfl (Nat.le_of_ble_eq_true rfl) d_X12_like_294 rfl (fun x66 => ?_)
        refine gg_bind 305 (fun (t67 : Int32) => [some (.ref (0)), some (.int c1), none, some (.int c3), some (.int c4), some (.int c5), some (.int v56)]) (fun (t67 : Int32) => [.int t67]) (fun (t67 : Int32) => σ) ?_ (fun t67 => ?_)
        · refine gg_br (br_icmp_ne (tgt := 304) (pc' := 300) d_X12_like_297 (by decide) rfl) (fun h68 => ?_) (fun h68 => ?_)
          · refine gg_st (go_iconst d_X12_like_300 ci_1 rfl) ?_
            refine gg_st (go_goto (pc' := 305) d_X12_like_301 (by decide)) ?_
            refine gg_st (go_fg [some (.ref (0)), some (.int c1), none, some (.int c3), some (.int c4), some (.int c5), some (.int v56)] ⟨rfl, ⟨rfl, ⟨rfl, ⟨rfl, ⟨rfl, ⟨rfl, trivial⟩⟩⟩⟩⟩⟩) ?_
            exact gg_end rfl
          · refine gg_st (go_iconst d_X12_like_304 ci_0 rfl) ?_
            refine gg_st (go_fg [some (.ref (0)), some (.int c1), none, some (.int c3), some (.int c4), some (.int c5), some (.int v56)] ⟨rfl, ⟨rfl, ⟨rfl, ⟨rfl, ⟨rfl, ⟨rfl, trivial⟩⟩⟩⟩⟩⟩) ?_
            exact gg_end rfl
        · refine gg_st (go_istore_n 2 d_X12_like_305 rfl (by decide) (L' := [some (.ref (0)), some (.int c1), some (.int t67), some (.int c3), some (.int c4), some (.int c5), some (.int v56)]) rfl rfl) ?_
          refine gg_st (go_iinc 6 d_X12_like_306 rfl (v := v56 + (1 : Int32)) (by rw [ci_1]) (by decide) (L' := [some (.ref (0)), some (.int c1), some (.int t67), some (.int c3), some (.int c4), some (.int c5), some (.int (v56 + (1 : Int32)))]) rfl rfl) ?_
          refine gg_st (go_goto (pc' := 241) d_X12_like_309 (by decide)) ?_
          exact ih t67 (v56 + (1 : Int32))
      · refine gg_st (go_fg [some (.ref (0)), some (.int c1), some (.int v55), some (.int c3), none, none, none] ⟨rfl, ⟨rfl, ⟨rfl, ⟨rfl, trivial⟩⟩⟩⟩) ?_
        exact gg_end rfl
set_option maxRecDepth 20000 in
theorem g_f_X12_like_L180 (l : Launch) (w : Wo) (F : Nat) (c1 : Int32) (σ : St) : ∀ (n : Nat) (v44 : Int32) (v45 : Int32), GG l w shM m_X12_like 3 180 [some (.ref (0)), some (.int c1), some (.int v44), some (.int v45), none, none, none] [] σ (f_X12_like_L180 F c1 σ n v44 v45) (fun (t : Int32) => .inl (318, [none, none, some (.int t), none, none, none, none], [], σ)) := by
  intro n
  induction n with
  | zero =>
    intro v44 v45
    exact gg_none
  | succ n ih =>
    intro v44 v45
    rw [f_X12_like_L180]
    refine gg_st (go_iload_n 3 d_X12_like_180 rfl rfl rfl) ?_
    refine gg_st (go_aload_n 0 d_X12_like_181 rfl rfl rfl) ?_
    refine gg_st (go_getR (j := 80) cf12 sM_0 rfl (by decide) fl_X12_170 d_X12_like_182 rfl) ?_
    refine gg_st (go_iconst d_X12_like_185 ci_0 rfl) ?_
    refine gg_st (go_iald sM_51 (by decide) d_X12_like_186 rfl) ?_
    refine gg_two (c := (v45 < (σ.1 (51) (ix (0 : Int32)))) ∧ (¬ (v44 = 0))) (pA := 194) (pB := 318) (LL := [some (.ref (0)), some (.int c1), some (.int v44), some (.int v45), none, none, none]) (ss := []) ?_ ?_ (fun hA70 hB71 => ?_)
    · refine gg_st (go_aload_n 0 d_X12_like_194 rfl rfl rfl) ?_
      refine gg_st (go_getR (j := 78) cf12 sM_0 rfl (by decide) fl_X12_164 d_X12_like_195 rfl) ?_
      refine gg_st (go_iload_n 3 d_X12_like_198 rfl rfl rfl) ?_
      refine gg_gd (fun h47 => ?_)
      refine gg_st (go_iald sM_49 h47 d_X12_like_199 rfl) ?_
      refine gg_nm (fun _ => [some (.ref (0)), some (.int c1), some (.int v44), some (.int v45), none, none, none]) (fun (x48 : Int32) => [.int x48]) (fun x48 => ?_)
      refine gg_st (go_istore 4 d_X12_like_200 (by decide) (L' := [some (.ref (0)), some (.int c1), some (.int v44), some (.int v45), some (.int x48), none, none]) rfl rfl) ?_
      refine gg_st (go_aload_n 0 d_X12_like_202 rfl rfl rfl) ?_
      refine gg_st (go_getR (j := 78) cf12 sM_0 rfl (by decide) fl_X12_164 d_X12_like_203 rfl) ?_
      refine gg_st (go_sipush d_X12_like_206 cs_400 rfl) ?_
      refine gg_st (go_iload_n 3 d_X12_like_209 rfl rfl rfl) ?_
      refine gg_st (go_iadd d_X12_like_210 rfl) ?_
      refine gg_gd (fun h49 => ?_)
      refine gg_st (go_iald sM_49 h49 d_X12_like_211 rfl) ?_
      refine gg_nm (fun _ => [some (.ref (0)), some (.int c1), some (.int v44), some (.int v45), some (.int x48), none, none]) (fun (x50 : Int32) => [.int x50]) (fun x50 => ?_)
      refine gg_st (go_istore 5 d_X12_like_212 (by decide) (L' := [some (.ref (0)), some (.int c1), some (.int v44), some (.int v45), some (.int x48), some (.int x50), none]) rfl rfl) ?_
      refine gg_st (go_aload_n 0 d_X12_like_214 rfl rfl rfl) ?_
      refine gg_st (go_getR (j := 15) cf12 sM_0 rfl (by decide) fl_X12_49 d_X12_like_215 rfl) ?_
      refine gg_st (go_iload 4 d_X12_like_218 rfl rfl) ?_
      refine gg_gd (fun h51 => ?_)
      refine gg_st (go_iald sM_12 h51 d_X12_like_220 rfl) ?_
      refine gg_st (go_aload_n 0 d_X12_like_221 rfl rfl rfl) ?_
      refine gg_st (go_iconst d_X12_like_222 ci_1 rfl) ?_
      refine gg_st (go_iload_n 1 d_X12_like_223 rfl rfl rfl) ?_
      refine gg_st (go_iload 5 d_X12_like_224 rfl rfl) ?_
      refine gv_I (k_X12_agentOf l w (1 : Int32) c1 x50 σ) cv_X12_457 sM_0 (Nat.le_of_ble_eq_true rfl) rfl rfl (Nat.le_of_ble_eq_true rfl) d_X12_like_226 rfl (fun x52 => ?_)
      refine gg_bind 237 (fun (t53 : Int32) => [some (.ref (0)), some (.int c1), none, some (.int v45), some (.int x48), some (.int x50), none]) (fun (t53 : Int32) => [.int t53]) (fun (t53 : Int32) => σ) ?_ (fun t53 => ?_)
      · refine gg_br (br_icmp_ne (tgt := 236) (pc' := 232) d_X12_like_229 (by decide) rfl) (fun h54 => ?_) (fun h54 => ?_)
        · refine gg_st (go_iconst d_X12_like_232 ci_1 rfl) ?_
          refine gg_st (go_goto (pc' := 237) d_X12_like_233 (by decide)) ?_
          refine gg_st (go_fg [some (.ref (0)), some (.int c1), none, some (.int v45), some (.int x48), some (.int x50), none] ⟨rfl, ⟨rfl, ⟨rfl, ⟨rfl, ⟨rfl, trivial⟩⟩⟩⟩⟩) ?_
          exact gg_end rfl
        · refine gg_st (go_iconst d_X12_like_236 ci_0 rfl) ?_
          refine gg_st (go_fg [some (.ref (0)), some (.int c1), none, some (.int v45), some (.int x48), some (.int x50), none] ⟨rfl, ⟨rfl, ⟨rfl, ⟨rfl, ⟨rfl, trivial⟩⟩⟩⟩⟩) ?_
          exact gg_end rfl
      · refine gg_st (go_istore_n 2 d_X12_like_237 rfl (by decide) (L' := [some (.ref (0)), some (.int c1), some (.int t53), some (.int v45), some (.int x48), some (.int x50), none]) rfl rfl) ?_
        refine gg_st (go_iconst d_X12_like_238 ci_0 rfl) ?_
        refine gg_st (go_istore 6 d_X12_like_239 (by decide) (L' := [some (.ref (0)), some (.int c1), some (.int t53), some (.int v45), some (.int x48), some (.int x50), some (.int (0 : Int32))]) rfl rfl) ?_
        refine gg_bind 312 (fun (t69 : Int32) => [some (.ref (0)), some (.int c1), some (.int t69), some (.int v45), none, none, none]) (fun (t69 : Int32) => []) (fun (t69 : Int32) => σ) (g_f_X12_like_L241 l w F c1 v45 x48 x50 σ F t53 (0 : Int32)) (fun t69 => ?_)
        refine gg_st (go_iinc 3 d_X12_like_312 rfl (v := v45 + (1 : Int32)) (by rw [ci_1]) (by decide) (L' := [some (.ref (0)), some (.int c1), some (.int t69), some (.int (v45 + (1 : Int32))), none, none, none]) rfl rfl) ?_
        refine gg_st (go_goto (pc' := 180) d_X12_like_315 (by decide)) ?_
        exact ih t69 (v45 + (1 : Int32))
    · refine gg_st (go_fg [none, none, some (.int v44), none, none, none, none] ⟨rfl, trivial⟩) ?_
      exact gg_end rfl
    refine gg_brs (br_icmp_ge (tgt := 318) (pc' := 190) d_X12_like_187 (by decide) rfl) (fun h72 => ?_) (fun h72 => ?_)
    · refine gg_st (go_iload_n 2 d_X12_like_190 rfl rfl rfl) ?_
      refine gg_brs (br_if_eq (tgt := 318) (pc' := 194) d_X12_like_191 (by decide) rfl) (fun h73 => ?_) (fun h73 => ?_)
      · exact gg_eq (if_neg (fun z => (fun z => z h73) z.2)) hB71
      · exact gg_eq (if_pos ⟨h72, h73⟩) hA70
    · exact gg_eq (if_neg (fun z => h72 z.1)) hB71
set_option maxRecDepth 20000 in
theorem k_X12_like (l : Launch) (w : Wo) (F : Nat) (p1 : Int32) (σ : St) : K l w shM m_X12_like 3 [.ref (0), .int p1] σ (f_X12_like F p1 σ) (rIS) := by
  refine k_of (L := [some (.ref (0)), some (.int p1), none, none, none, none, none]) (plainFor_of_name (by decide +kernel)) 5 rfl (Nat.le_of_ble_eq_true rfl) ?_
  unfold f_X12_like
  refine gg_st (go_iload_n 1 d_X12_like_0 rfl rfl rfl) ?_
  refine gs_I (k_X12_isShelf l w p1 σ) cs_X12_447 (Nat.le_of_ble_eq_true rfl) rfl rfl (Nat.le_of_ble_eq_true rfl) d_X12_like_1 rfl (fun x1 => ?_)
  refine gg_br (br_if_ne (tgt := 11) (pc' := 7) d_X12_like_4 (by decide) rfl) (fun h3 => ?_) (fun h3 => ?_)
  · refine gg_st (go_sipush d_X12_like_7 cs_m1001 rfl) ?_
    exact gg_iret rfl d_X12_like_10 rfl
  · refine gg_st (go_aload_n 0 d_X12_like_11 rfl rfl rfl) ?_
    refine gg_st (go_getR (j := 76) cf12 sM_0 rfl (by decide) fl_X12_158 d_X12_like_12 rfl) ?_
    refine gg_st (go_iload_n 1 d_X12_like_15 rfl rfl rfl) ?_
    refine gg_gd (fun h4 => ?_)
    refine gg_st (go_iald sM_47 h4 d_X12_like_16 rfl) ?_
    refine gg_br (br_if_ge (tgt := 24) (pc' := 20) d_X12_like_17 (by decide) rfl) (fun h5 => ?_) (fun h5 => ?_)
    · refine gg_st (go_sipush d_X12_like_20 cs_m1003 rfl) ?_
      exact gg_iret rfl d_X12_like_23 rfl
    · refine gg_st (go_aload_n 0 d_X12_like_24 rfl rfl rfl) ?_
      refine gg_st (go_iconst d_X12_like_25 ci_0 rfl) ?_
      refine gg_st (go_iload_n 1 d_X12_like_26 rfl rfl rfl) ?_
      refine gv_V (k_X12_reach l w F (0 : Int32) p1 σ) cv_X12_463 sM_0 (Nat.le_of_ble_eq_true rfl) rfl rfl (Nat.le_of_ble_eq_true rfl) d_X12_like_27 rfl (fun s6 => ?_)
      refine gg_st (go_aload_n 0 d_X12_like_30 rfl rfl rfl) ?_
      refine gg_st (go_iconst d_X12_like_31 ci_1 rfl) ?_
      refine gg_st (go_iload_n 1 d_X12_like_32 rfl rfl rfl) ?_
      refine gv_V (k_X12_reach l w F (1 : Int32) p1 s6) cv_X12_463 sM_0 (Nat.le_of_ble_eq_true rfl) rfl rfl (Nat.le_of_ble_eq_true rfl) d_X12_like_33 rfl (fun s7 => ?_)
      refine gg_st (go_aload_n 0 d_X12_like_36 rfl rfl rfl) ?_
      refine gg_st (go_getI (j := 18) cf12 sM_0 rfl (by decide) fl_X12_182 d_X12_like_37 rfl) ?_
      refine gg_st (go_aload_n 0 d_X12_like_40 rfl rfl rfl) ?_
      refine gg_st (go_getR (j := 76) cf12 sM_0 rfl (by decide) fl_X12_158 d_X12_like_41 rfl) ?_
      refine gg_st (go_iload_n 1 d_X12_like_44 rfl rfl rfl) ?_
      refine gg_gd (fun h8 => ?_)
      refine gg_st (go_iald sM_47 h8 d_X12_like_45 rfl) ?_
      refine gg_bind 82 (fun (t9 : Int32) => [some (.ref (0)), some (.int p1), none, none, none, none, none]) (fun (t9 : Int32) => [.int t9]) (fun (t9 : Int32) => s7) ?_ (fun t9 => ?_)
      · refine gg_jp 81 (fun (t11 : Unit) => [some (.ref (0)), some (.int p1), none, none, none, none, none]) (fun (t11 : Unit) => []) (fun (t11 : Unit) => s7) (fun t11 => ?_) (fun jp12 hjp12 => ?_)
        · refine gg_st (go_iconst d_X12_like_81 ci_0 rfl) ?_
          exact gg_end rfl
        refine gg_br (br_icmp_ne (tgt := 81) (pc' := 49) d_X12_like_46 (by decide) rfl) (fun h13 => ?_) (fun h13 => ?_)
        · refine gg_st (go_aload_n 0 d_X12_like_49 rfl rfl rfl) ?_
          refine gg_st (go_getI (j := 19) cf12 sM_0 rfl (by decide) fl_X12_185 d_X12_like_50 rfl) ?_
          refine gg_st (go_aload_n 0 d_X12_like_53 rfl rfl rfl) ?_
          refine gg_st (go_getR (j := 77) cf12 sM_0 rfl (by decide) fl_X12_161 d_X12_like_54 rfl) ?_
          refine gg_st (go_iload_n 1 d_X12_like_57 rfl rfl rfl) ?_
          refine gg_gd (fun h14 => ?_)
          refine gg_st (go_iald sM_48 h14 d_X12_like_58 rfl) ?_
          refine gg_two (c := ((s7.1 (0) 19) = (s7.1 (48) (ix p1))) ∧ ((s7.1 (51) (ix (0 : Int32))) = (s7.1 (51) (ix (1 : Int32))))) (pA := 77) (pB := 81) (LL := [some (.ref (0)), some (.int p1), none, none, none, none, none]) (ss := []) ?_ ?_ (fun hA15 hB16 => ?_)
          · refine gg_st (go_iconst d_X12_like_77 ci_1 rfl) ?_
            refine gg_st (go_goto (pc' := 82) d_X12_like_78 (by decide)) ?_
            exact gg_end rfl
          · exact hjp12 ()
          refine gg_brs (br_icmp_ne (tgt := 81) (pc' := 62) d_X12_like_59 (by decide) rfl) (fun h17 => ?_) (fun h17 => ?_)
          · refine gg_st (go_aload_n 0 d_X12_like_62 rfl rfl rfl) ?_
            refine gg_st (go_getR (j := 80) cf12 sM_0 rfl (by decide) fl_X12_170 d_X12_like_63 rfl) ?_
            refine gg_st (go_iconst d_X12_like_66 ci_0 rfl) ?_
            refine gg_st (go_iald sM_51 (by decide) d_X12_like_67 rfl) ?_
            refine gg_st (go_aload_n 0 d_X12_like_68 rfl rfl rfl) ?_
            refine gg_st (go_getR (j := 80) cf12 sM_0 rfl (by decide) fl_X12_170 d_X12_like_69 rfl) ?_
            refine gg_st (go_iconst d_X12_like_72 ci_1 rfl) ?_
            refine gg_st (go_iald sM_51 (by decide) d_X12_like_73 rfl) ?_
            refine gg_brs (br_icmp_ne (tgt := 81) (pc' := 77) d_X12_like_74 (by decide) rfl) (fun h18 => ?_) (fun h18 => ?_)
            · exact gg_eq (if_pos ⟨h17, h18⟩) hA15
            · exact gg_eq (if_neg (fun z => h18 z.2)) hB16
          · exact gg_eq (if_neg (fun z => h17 z.1)) hB16
        · exact hjp12 ()
      · refine gg_st (go_istore_n 2 d_X12_like_82 rfl (by decide) (L' := [some (.ref (0)), some (.int p1), some (.int t9), none, none, none, none]) rfl rfl) ?_
        refine gg_st (go_iconst d_X12_like_83 ci_0 rfl) ?_
        refine gg_st (go_istore_n 3 d_X12_like_84 rfl (by decide) (L' := [some (.ref (0)), some (.int p1), some (.int t9), some (.int (0 : Int32)), none, none, none]) rfl rfl) ?_
        refine gg_bind 126 (fun (t29 : Int32) => [some (.ref (0)), some (.int p1), some (.int t29), none, none, none, none]) (fun (t29 : Int32) => []) (fun (t29 : Int32) => s7) (g_f_X12_like_L85 l w F p1 s7 F t9 (0 : Int32)) (fun t29 => ?_)
        refine gg_st (go_iconst d_X12_like_126 ci_0 rfl) ?_
        refine gg_st (go_istore_n 3 d_X12_like_127 rfl (by decide) (L' := [some (.ref (0)), some (.int p1), some (.int t29), some (.int (0 : Int32)), none, none, none]) rfl rfl) ?_
        refine gg_bind 178 (fun (t43 : Int32) => [some (.ref (0)), some (.int p1), some (.int t43), none, none, none, none]) (fun (t43 : Int32) => []) (fun (t43 : Int32) => s7) (g_f_X12_like_L128 l w F p1 s7 F t29 (0 : Int32)) (fun t43 => ?_)
        refine gg_st (go_iconst d_X12_like_178 ci_0 rfl) ?_
        refine gg_st (go_istore_n 3 d_X12_like_179 rfl (by decide) (L' := [some (.ref (0)), some (.int p1), some (.int t43), some (.int (0 : Int32)), none, none, none]) rfl rfl) ?_
        refine gg_bind 318 (fun (t74 : Int32) => [none, none, some (.int t74), none, none, none, none]) (fun (t74 : Int32) => []) (fun (t74 : Int32) => s7) (g_f_X12_like_L180 l w F p1 s7 F t43 (0 : Int32)) (fun t74 => ?_)
        refine gg_st (go_iload_n 2 d_X12_like_318 rfl rfl rfl) ?_
        refine gg_br (br_if_eq (tgt := 326) (pc' := 322) d_X12_like_319 (by decide) rfl) (fun h75 => ?_) (fun h75 => ?_)
        · refine gg_st (go_iconst d_X12_like_326 ci_0 rfl) ?_
          exact gg_iret rfl d_X12_like_327 rfl
        · refine gg_st (go_iconst d_X12_like_322 ci_1 rfl) ?_
          refine gg_st (go_goto (pc' := 327) d_X12_like_323 (by decide)) ?_
          exact gg_iret rfl d_X12_like_327 rfl
