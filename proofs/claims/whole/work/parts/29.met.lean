def f_X7_slotAt (p1 : Int32) (p2 : Int32) (p3 : Int32) (p4 : Int32) : Int32 :=
  if (0 ≤ p1) ∧ (¬ ((f_X11_portOf p1) = 0)) then (
    if (f_X11_agentOf p1) = p2 then (
      (p4 + (f_X11_portOf p1)) - (1 : Int32))
    else (
      if (f_X11_agentOf p1) = p3 then (
        (((4 : Int32) - p4) + (f_X11_portOf p1)) - (1 : Int32))
      else (
        (-1 : Int32))))
  else (
    (-1 : Int32))
set_option maxRecDepth 20000 in
theorem k_X7_slotAt (l : Launch) (w : Wo) (p1 : Int32) (p2 : Int32) (p3 : Int32) (p4 : Int32) (σ : St) : K l w shC m_X7_slotAt 2 [.int p1, .int p2, .int p3, .int p4] σ (some (f_X7_slotAt p1 p2 p3 p4)) (rI σ) := by
  refine k_of (L := [some (.int p1), some (.int p2), some (.int p3), some (.int p4)]) (plainFor_of_name (by decide +kernel)) 0 rfl (Nat.le_of_ble_eq_true rfl) ?_
  unfold f_X7_slotAt
  refine gg_st (go_iload_n 0 d_X7_slotAt_0 rfl rfl rfl) ?_
  refine gg_twov (c := (0 ≤ p1) ∧ (¬ ((f_X11_portOf p1) = 0))) (pA := 13) (pB := 11) (LL := [some (.int p1), some (.int p2), some (.int p3), some (.int p4)]) (ss := []) ?_ ?_ (fun hA3 hB4 => ?_)
  · refine gg_st (go_iload_n 0 d_X7_slotAt_13 rfl rfl rfl) ?_
    refine gg_st (go_sI (k_X11_agentOf l w p1 σ) cs_X7_110 (Nat.le_of_ble_eq_true rfl) rfl rfl (Nat.le_of_ble_eq_true rfl) d_X7_slotAt_14 rfl) ?_
    refine gg_st (go_iload_n 1 d_X7_slotAt_17 rfl rfl rfl) ?_
    refine gg_brv (f := fun z => some z) (br_icmp_ne (tgt := 30) (pc' := 21) d_X7_slotAt_18 (by decide) rfl) (fun h1 => ?_) (fun h1 => ?_)
    · refine gg_st (go_iload_n 3 d_X7_slotAt_21 rfl rfl rfl) ?_
      refine gg_st (go_iload_n 0 d_X7_slotAt_22 rfl rfl rfl) ?_
      refine gg_st (go_sI (k_X11_portOf l w p1 σ) cs_X7_107 (Nat.le_of_ble_eq_true rfl) rfl rfl (Nat.le_of_ble_eq_true rfl) d_X7_slotAt_23 rfl) ?_
      refine gg_st (go_iadd d_X7_slotAt_26 rfl) ?_
      refine gg_st (go_iconst d_X7_slotAt_27 ci_1 rfl) ?_
      refine gg_st (go_isub d_X7_slotAt_28 rfl) ?_
      exact gg_iret rfl d_X7_slotAt_29 rfl
    · refine gg_st (go_iload_n 0 d_X7_slotAt_30 rfl rfl rfl) ?_
      refine gg_st (go_sI (k_X11_agentOf l w p1 σ) cs_X7_110 (Nat.le_of_ble_eq_true rfl) rfl rfl (Nat.le_of_ble_eq_true rfl) d_X7_slotAt_31 rfl) ?_
      refine gg_st (go_iload_n 2 d_X7_slotAt_34 rfl rfl rfl) ?_
      refine gg_brv (f := fun z => some z) (br_icmp_ne (tgt := 51) (pc' := 38) d_X7_slotAt_35 (by decide) rfl) (fun h2 => ?_) (fun h2 => ?_)
      · refine gg_st (go_iconst d_X7_slotAt_38 ci_4 rfl) ?_
        refine gg_st (go_iload_n 3 d_X7_slotAt_39 rfl rfl rfl) ?_
        refine gg_st (go_isub d_X7_slotAt_40 rfl) ?_
        refine gg_st (go_iload_n 0 d_X7_slotAt_41 rfl rfl rfl) ?_
        refine gg_st (go_sI (k_X11_portOf l w p1 σ) cs_X7_107 (Nat.le_of_ble_eq_true rfl) rfl rfl (Nat.le_of_ble_eq_true rfl) d_X7_slotAt_42 rfl) ?_
        refine gg_st (go_iadd d_X7_slotAt_45 rfl) ?_
        refine gg_st (go_iconst d_X7_slotAt_46 ci_1 rfl) ?_
        refine gg_st (go_isub d_X7_slotAt_47 rfl) ?_
        refine gg_st (go_goto (pc' := 52) d_X7_slotAt_48 (by decide)) ?_
        exact gg_iret rfl d_X7_slotAt_52 rfl
      · refine gg_st (go_iconst d_X7_slotAt_51 ci_m1 rfl) ?_
        exact gg_iret rfl d_X7_slotAt_52 rfl
  · refine gg_st (go_iconst d_X7_slotAt_11 ci_m1 rfl) ?_
    exact gg_iret rfl d_X7_slotAt_12 rfl
  refine gg_brs (br_if_lt (tgt := 11) (pc' := 4) d_X7_slotAt_1 (by decide) rfl) (fun h5 => ?_) (fun h5 => ?_)
  · refine gg_st (go_iload_n 0 d_X7_slotAt_4 rfl rfl rfl) ?_
    refine gg_st (go_sI (k_X11_portOf l w p1 σ) cs_X7_107 (Nat.le_of_ble_eq_true rfl) rfl rfl (Nat.le_of_ble_eq_true rfl) d_X7_slotAt_5 rfl) ?_
    refine gg_brs (br_if_ne (tgt := 13) (pc' := 11) d_X7_slotAt_8 (by decide) rfl) (fun h6 => ?_) (fun h6 => ?_)
    · exact gg_eq (congrArg some (if_neg (fun z => (fun z => z h6) z.2))) hB4
    · exact gg_eq (congrArg some (if_pos ⟨h5, h6⟩)) hA3
  · exact gg_eq (congrArg some (if_neg (fun z => h5 z.1))) hB4
def f_X7_noteOutside_L24 (F : Nat) (c2 : Int32) (c3 : Int32) (c4 : Int32) (c5 : Int32) : Nat → Int32 → St → Option (St)
  | 0, _, _ => none
  | n + 1, v4, g =>
    if v4 < c5 then (
      Option.bind (some ((c4 + v4) - (1 : Int32))) fun x6 =>
      Option.bind (some (f_X11_portCode c2 v4)) fun x7 =>
      Option.bind (f_X4_wireOf (77) x7 g) fun x8 =>
      Option.bind (some (f_X11_isInside x6 (8 : Int32))) fun x9 =>
      Option.bind (
        if x9 = 0 then (
          some g)
        else (
          if inb x6 8 then (
            Option.bind (some (seti g (34) (ix x6) (0 : Int32))) fun s15 =>
            if inb x6 8 then (
              Option.bind (some (seti s15 (32) (ix x6) x8)) fun s17 =>
              Option.bind (some (f_X7_slotAt x8 c2 c3 c4)) fun x18 =>
              if inb x6 8 then (
                Option.bind (some (seti s17 (33) (ix x6) x18)) fun s20 =>
                some s20)
              else none)
            else none)
          else none)) fun t10 =>
      f_X7_noteOutside_L24 F c2 c3 c4 c5 n (v4 + (1 : Int32)) t10)
    else (
      some g)
def f_X7_noteOutside (F : Nat) (p1 : Int32) (p2 : Int32) (p3 : Int32) (σ : St) : Option (St) :=
  Option.bind (f_X4_kindOf (77) p1 σ) fun x1 =>
  Option.bind (f_X3_portsOf (65) x1 σ) fun x2 =>
  Option.bind (some (f_J9_min_7cf53 x2 (5 : Int32))) fun x3 =>
  Option.bind (f_X7_noteOutside_L24 F p1 p2 p3 x3 F (1 : Int32) σ) fun t21 =>
  some t21
set_option maxRecDepth 20000 in
theorem g_f_X7_noteOutside_L24 (l : Launch) (w : Wo) (F : Nat) (c2 : Int32) (c3 : Int32) (c4 : Int32) (c5 : Int32) : ∀ (n : Nat) (v4 : Int32) (g : St), GG l w shC m_X7_noteOutside 3 24 [some (.ref (31)), some (.ref (64)), some (.int c2), some (.int c3), some (.int c4), some (.int c5), some (.int v4), none, none] [] g (f_X7_noteOutside_L24 F c2 c3 c4 c5 n v4 g) (fun (t : St) => .inl (104, [none, none, none, none, none, none, none, none, none], [], t)) := by
  intro n
  induction n with
  | zero =>
    intro v4 g
    exact gg_none
  | succ n ih =>
    intro v4 g
    rw [f_X7_noteOutside_L24]
    refine gg_st (go_iload 6 d_X7_noteOutside_24 rfl rfl) ?_
    refine gg_st (go_iload 5 d_X7_noteOutside_26 rfl rfl) ?_
    refine gg_br (br_icmp_ge (tgt := 104) (pc' := 31) d_X7_noteOutside_28 (by decide) rfl) (fun h5 => ?_) (fun h5 => ?_)
    · refine gg_st (go_iload 4 d_X7_noteOutside_31 rfl rfl) ?_
      refine gg_st (go_iload 6 d_X7_noteOutside_33 rfl rfl) ?_
      refine gg_st (go_iadd d_X7_noteOutside_35 rfl) ?_
      refine gg_st (go_iconst d_X7_noteOutside_36 ci_1 rfl) ?_
      refine gg_st (go_isub d_X7_noteOutside_37 rfl) ?_
      refine gg_nm (fun _ => [some (.ref (31)), some (.ref (64)), some (.int c2), some (.int c3), some (.int c4), some (.int c5), some (.int v4), none, none]) (fun (x6 : Int32) => [.int x6]) (fun x6 => ?_)
      refine gg_st (go_istore 7 d_X7_noteOutside_38 (by decide) (L' := [some (.ref (31)), some (.ref (64)), some (.int c2), some (.int c3), some (.int c4), some (.int c5), some (.int v4), some (.int x6), none]) rfl rfl) ?_
      refine gg_st (go_aload_n 1 d_X7_noteOutside_40 rfl rfl rfl) ?_
      refine gg_st (go_getR (j := 2) cf0 sC_64 rfl (by decide) fl_X7_37 d_X7_noteOutside_41 rfl) ?_
      refine gg_st (go_iload_n 2 d_X7_noteOutside_44 rfl rfl rfl) ?_
      refine gg_st (go_iload 6 d_X7_noteOutside_45 rfl rfl) ?_
      refine gs_I (k_X11_portCode l w c2 v4 g) cs_X7_93 (Nat.le_of_ble_eq_true rfl) rfl rfl (Nat.le_of_ble_eq_true rfl) d_X7_noteOutside_47 rfl (fun x7 => ?_)
      refine gv_I (k_X4_wireOf l w (show 77 ∈ st39_43_47_51_77 by decide) x7 g) cv_X7_96 sC_77 (Nat.le_of_ble_eq_true rfl) rfl rfl (Nat.le_of_ble_eq_true rfl) d_X7_noteOutside_50 rfl (fun x8 => ?_)
      refine gg_st (go_istore 8 d_X7_noteOutside_53 (by decide) (L' := [some (.ref (31)), some (.ref (64)), some (.int c2), some (.int c3), some (.int c4), some (.int c5), some (.int v4), some (.int x6), some (.int x8)]) rfl rfl) ?_
      refine gg_st (go_iload 7 d_X7_noteOutside_55 rfl rfl) ?_
      refine gg_st (go_bipush d_X7_noteOutside_57 cb_8 rfl) ?_
      refine gs_I (k_X11_isInside l w x6 (8 : Int32) g) cs_X7_99 (Nat.le_of_ble_eq_true rfl) rfl rfl (Nat.le_of_ble_eq_true rfl) d_X7_noteOutside_59 rfl (fun x9 => ?_)
      refine gg_bind 98 (fun (t10 : St) => [some (.ref (31)), some (.ref (64)), some (.int c2), some (.int c3), some (.int c4), some (.int c5), some (.int v4), none, none]) (fun (t10 : St) => []) (fun (t10 : St) => t10) ?_ (fun t10 => ?_)
      · refine gg_br (br_if_eq (tgt := 98) (pc' := 65) d_X7_noteOutside_62 (by decide) rfl) (fun h13 => ?_) (fun h13 => ?_)
        · refine gg_st (go_fg [some (.ref (31)), some (.ref (64)), some (.int c2), some (.int c3), some (.int c4), some (.int c5), some (.int v4), none, none] ⟨rfl, ⟨rfl, ⟨rfl, ⟨rfl, ⟨rfl, ⟨rfl, ⟨rfl, trivial⟩⟩⟩⟩⟩⟩⟩) ?_
          exact gg_end rfl
        · refine gg_st (go_aload_n 0 d_X7_noteOutside_65 rfl rfl rfl) ?_
          refine gg_st (go_getR (j := 2) cf7 sC_31 rfl (by decide) fl_X7_18 d_X7_noteOutside_66 rfl) ?_
          refine gg_st (go_iload 7 d_X7_noteOutside_69 rfl rfl) ?_
          refine gg_st (go_iconst d_X7_noteOutside_71 ci_0 rfl) ?_
          refine gg_gd (fun h14 => ?_)
          refine gg_st (go_zast (Or.inl rfl) sC_34 h14 d_X7_noteOutside_72 rfl) ?_
          refine gg_som (fun s15 => ?_)
          refine gg_st (go_aload_n 0 d_X7_noteOutside_73 rfl rfl rfl) ?_
          refine gg_st (go_getR (j := 0) cf7 sC_31 rfl (by decide) fl_X7_9 d_X7_noteOutside_74 rfl) ?_
          refine gg_st (go_iload 7 d_X7_noteOutside_77 rfl rfl) ?_
          refine gg_st (go_iload 8 d_X7_noteOutside_79 rfl rfl) ?_
          refine gg_gd (fun h16 => ?_)
          refine gg_st (go_iast sC_32 h16 d_X7_noteOutside_81 rfl) ?_
          refine gg_som (fun s17 => ?_)
          refine gg_st (go_aload_n 0 d_X7_noteOutside_82 rfl rfl rfl) ?_
          refine gg_st (go_getR (j := 1) cf7 sC_31 rfl (by decide) fl_X7_15 d_X7_noteOutside_83 rfl) ?_
          refine gg_st (go_iload 7 d_X7_noteOutside_86 rfl rfl) ?_
          refine gg_st (go_iload 8 d_X7_noteOutside_88 rfl rfl) ?_
          refine gg_st (go_iload_n 2 d_X7_noteOutside_90 rfl rfl rfl) ?_
          refine gg_st (go_iload_n 3 d_X7_noteOutside_91 rfl rfl rfl) ?_
          refine gg_st (go_iload 4 d_X7_noteOutside_92 rfl rfl) ?_
          refine gs_I (k_X7_slotAt l w x8 c2 c3 c4 s17) cs_X7_103 (Nat.le_of_ble_eq_true rfl) rfl rfl (Nat.le_of_ble_eq_true rfl) d_X7_noteOutside_94 rfl (fun x18 => ?_)
          refine gg_gd (fun h19 => ?_)
          refine gg_st (go_iast sC_33 h19 d_X7_noteOutside_97 rfl) ?_
          refine gg_som (fun s20 => ?_)
          refine gg_st (go_fg [some (.ref (31)), some (.ref (64)), some (.int c2), some (.int c3), some (.int c4), some (.int c5), some (.int v4), none, none] ⟨rfl, ⟨rfl, ⟨rfl, ⟨rfl, ⟨rfl, ⟨rfl, ⟨rfl, trivial⟩⟩⟩⟩⟩⟩⟩) ?_
          exact gg_end rfl
      · refine gg_st (go_iinc 6 d_X7_noteOutside_98 rfl (v := v4 + (1 : Int32)) (by rw [ci_1]) (by decide) (L' := [some (.ref (31)), some (.ref (64)), some (.int c2), some (.int c3), some (.int c4), some (.int c5), some (.int (v4 + (1 : Int32))), none, none]) rfl rfl) ?_
        refine gg_st (go_goto (pc' := 24) d_X7_noteOutside_101 (by decide)) ?_
        exact ih (v4 + (1 : Int32)) t10
    · refine gg_st (go_fg [none, none, none, none, none, none, none, none, none] trivial) ?_
      exact gg_end rfl
set_option maxRecDepth 20000 in
theorem k_X7_noteOutside (l : Launch) (w : Wo) (F : Nat) (p1 : Int32) (p2 : Int32) (p3 : Int32) (σ : St) : K l w shC m_X7_noteOutside 3 [.ref (31), .ref (64), .int p1, .int p2, .int p3] σ (f_X7_noteOutside F p1 p2 p3 σ) (rV) := by
  refine k_of (L := [some (.ref (31)), some (.ref (64)), some (.int p1), some (.int p2), some (.int p3), none, none, none, none]) (plainFor_of_name (by decide +kernel)) 4 rfl (Nat.le_of_ble_eq_true rfl) ?_
  unfold f_X7_noteOutside
  refine gg_st (go_aload_n 1 d_X7_noteOutside_0 rfl rfl rfl) ?_
  refine gg_st (go_getR (j := 0) cf0 sC_64 rfl (by decide) fl_X7_78 d_X7_noteOutside_1 rfl) ?_
  refine gg_st (go_aload_n 1 d_X7_noteOutside_4 rfl rfl rfl) ?_
  refine gg_st (go_getR (j := 2) cf0 sC_64 rfl (by decide) fl_X7_37 d_X7_noteOutside_5 rfl) ?_
  refine gg_st (go_iload_n 2 d_X7_noteOutside_8 rfl rfl rfl) ?_
  refine gv_I (k_X4_kindOf l w (show 77 ∈ st39_43_47_51_77 by decide) p1 σ) cv_X7_41 sC_77 (Nat.le_of_ble_eq_true rfl) rfl rfl (Nat.le_of_ble_eq_true rfl) d_X7_noteOutside_9 rfl (fun x1 => ?_)
  refine gv_I (k_X3_portsOf l w (show 65 ∈ st15_65 by decide) x1 σ) cv_X7_82 sC_65 (Nat.le_of_ble_eq_true rfl) rfl rfl (Nat.le_of_ble_eq_true rfl) d_X7_noteOutside_12 rfl (fun x2 => ?_)
  refine gg_st (go_iconst d_X7_noteOutside_15 ci_5 rfl) ?_
  refine gs_I (k_J9_min_7cf53 l w x2 (5 : Int32) σ) cs_X7_87 (Nat.le_of_ble_eq_true rfl) rfl rfl (Nat.le_of_ble_eq_true rfl) d_X7_noteOutside_16 rfl (fun x3 => ?_)
  refine gg_st (go_istore 5 d_X7_noteOutside_19 (by decide) (L' := [some (.ref (31)), some (.ref (64)), some (.int p1), some (.int p2), some (.int p3), some (.int x3), none, none, none]) rfl rfl) ?_
  refine gg_st (go_iconst d_X7_noteOutside_21 ci_1 rfl) ?_
  refine gg_st (go_istore 6 d_X7_noteOutside_22 (by decide) (L' := [some (.ref (31)), some (.ref (64)), some (.int p1), some (.int p2), some (.int p3), some (.int x3), some (.int (1 : Int32)), none, none]) rfl rfl) ?_
  refine gg_bind 104 (fun (t21 : St) => [none, none, none, none, none, none, none, none, none]) (fun (t21 : St) => []) (fun (t21 : St) => t21) (g_f_X7_noteOutside_L24 l w F p1 p2 p3 x3 F (1 : Int32) σ) (fun t21 => ?_)
  exact gg_vret rfl d_X7_noteOutside_104 rfl
def f_X7_passAll_L2 (F : Nat) : Nat → Int32 → St → Option (St)
  | 0, _, _ => none
  | n + 1, v1, g =>
    if v1 < (8 : Int32) then (
      if inb v1 8 then (
        Option.bind (some (seti g (34) (ix v1) (1 : Int32))) fun s6 =>
        f_X7_passAll_L2 F n (v1 + (1 : Int32)) s6)
      else none)
    else (
      some g)
def f_X7_passAll (F : Nat) (σ : St) : Option (St) :=
  Option.bind (f_X7_passAll_L2 F F (0 : Int32) σ) fun t7 =>
  some t7
set_option maxRecDepth 20000 in
theorem g_f_X7_passAll_L2 (l : Launch) (w : Wo) (F : Nat) : ∀ (n : Nat) (v1 : Int32) (g : St), GG l w shC m_X7_passAll 1 2 [some (.ref (31)), some (.int v1)] [] g (f_X7_passAll_L2 F n v1 g) (fun (t : St) => .inl (21, [none, none], [], t)) := by
  intro n
  induction n with
  | zero =>
    intro v1 g
    exact gg_none
  | succ n ih =>
    intro v1 g
    rw [f_X7_passAll_L2]
    refine gg_st (go_iload_n 1 d_X7_passAll_2 rfl rfl rfl) ?_
    refine gg_st (go_bipush d_X7_passAll_3 cb_8 rfl) ?_
    refine gg_br (br_icmp_ge (tgt := 21) (pc' := 8) d_X7_passAll_5 (by decide) rfl) (fun h4 => ?_) (fun h4 => ?_)
    · refine gg_st (go_aload_n 0 d_X7_passAll_8 rfl rfl rfl) ?_
      refine gg_st (go_getR (j := 2) cf7 sC_31 rfl (by decide) fl_X7_18 d_X7_passAll_9 rfl) ?_
      refine gg_st (go_iload_n 1 d_X7_passAll_12 rfl rfl rfl) ?_
      refine gg_st (go_iconst d_X7_passAll_13 ci_1 rfl) ?_
      refine gg_gd (fun h5 => ?_)
      refine gg_st (go_zast (Or.inr rfl) sC_34 h5 d_X7_passAll_14 rfl) ?_
      refine gg_som (fun s6 => ?_)
      refine gg_st (go_iinc 1 d_X7_passAll_15 rfl (v := v1 + (1 : Int32)) (by rw [ci_1]) (by decide) (L' := [some (.ref (31)), some (.int (v1 + (1 : Int32)))]) rfl rfl) ?_
      refine gg_st (go_goto (pc' := 2) d_X7_passAll_18 (by decide)) ?_
      exact ih (v1 + (1 : Int32)) s6
    · refine gg_st (go_fg [none, none] trivial) ?_
      exact gg_end rfl
set_option maxRecDepth 20000 in
theorem k_X7_passAll (l : Launch) (w : Wo) (F : Nat) (σ : St) : K l w shC m_X7_passAll 1 [.ref (31)] σ (f_X7_passAll F σ) (rV) := by
  refine k_of (L := [some (.ref (31)), none]) (plainFor_of_name (by decide +kernel)) 1 rfl (Nat.le_of_ble_eq_true rfl) ?_
  unfold f_X7_passAll
  refine gg_st (go_iconst d_X7_passAll_0 ci_0 rfl) ?_
  refine gg_st (go_istore_n 1 d_X7_passAll_1 rfl (by decide) (L' := [some (.ref (31)), some (.int (0 : Int32))]) rfl rfl) ?_
  refine gg_bind 21 (fun (t7 : St) => [none, none]) (fun (t7 : St) => []) (fun (t7 : St) => t7) (g_f_X7_passAll_L2 l w F F (0 : Int32) σ) (fun t7 => ?_)
  exact gg_vret rfl d_X7_passAll_21 rfl
def f_X8_agentKind (p1 : Int32) (p2 : Int32) (σ : St) : Option (Int32) :=
  Option.bind (f_X8_agentsIn p1 σ) fun x1 =>
  Option.bind (some (f_X11_isInside p2 x1)) fun x2 =>
  if (x2 = 0) ∨ (¬ (p2 < (12 : Int32))) then (
    some (-1 : Int32))
  else (
    if inb ((p1 * (12 : Int32)) + p2) 720 then (
      some (σ.1 (74) (ix ((p1 * (12 : Int32)) + p2))))
    else none)
set_option maxRecDepth 20000 in
theorem k_X8_agentKind (l : Launch) (w : Wo) (p1 : Int32) (p2 : Int32) (σ : St) : K l w shC m_X8_agentKind 3 [.ref (69), .int p1, .int p2] σ (f_X8_agentKind p1 p2 σ) (rI σ) := by
  refine k_of (L := [some (.ref (69)), some (.int p1), some (.int p2)]) (plainFor_of_name (by decide +kernel)) 0 rfl (Nat.le_of_ble_eq_true rfl) ?_
  unfold f_X8_agentKind
  refine gg_st (go_iload_n 2 d_X8_agentKind_0 rfl rfl rfl) ?_
  refine gg_st (go_aload_n 0 d_X8_agentKind_1 rfl rfl rfl) ?_
  refine gg_st (go_iload_n 1 d_X8_agentKind_2 rfl rfl rfl) ?_
  refine gv_I (k_X8_agentsIn l w p1 σ) cv_X8_59 sC_69 (Nat.le_of_ble_eq_true rfl) rfl rfl (Nat.le_of_ble_eq_true rfl) d_X8_agentKind_3 rfl (fun x1 => ?_)
  refine gs_I (k_X11_isInside l w p2 x1 σ) cs_X8_43 (Nat.le_of_ble_eq_true rfl) rfl rfl (Nat.le_of_ble_eq_true rfl) d_X8_agentKind_6 rfl (fun x2 => ?_)
  refine gg_two (c := (x2 = 0) ∨ (¬ (p2 < (12 : Int32)))) (pA := 32) (pB := 18) (LL := [some (.ref (69)), some (.int p1), some (.int p2)]) (ss := []) ?_ ?_ (fun hA5 hB6 => ?_)
  · refine gg_st (go_iconst d_X8_agentKind_32 ci_m1 rfl) ?_
    exact gg_iret rfl d_X8_agentKind_33 rfl
  · refine gg_st (go_aload_n 0 d_X8_agentKind_18 rfl rfl rfl) ?_
    refine gg_st (go_getR (j := 4) cf8 sC_69 rfl (by decide) fl_X8_24 d_X8_agentKind_19 rfl) ?_
    refine gg_st (go_iload_n 1 d_X8_agentKind_22 rfl rfl rfl) ?_
    refine gg_st (go_bipush d_X8_agentKind_23 cb_12 rfl) ?_
    refine gg_st (go_imul d_X8_agentKind_25 rfl) ?_
    refine gg_st (go_iload_n 2 d_X8_agentKind_26 rfl rfl rfl) ?_
    refine gg_st (go_iadd d_X8_agentKind_27 rfl) ?_
    refine gg_gd (fun h4 => ?_)
    refine gg_st (go_iald sC_74 h4 d_X8_agentKind_28 rfl) ?_
    refine gg_st (go_goto (pc' := 33) d_X8_agentKind_29 (by decide)) ?_
    exact gg_iret rfl d_X8_agentKind_33 rfl
  refine gg_brs (br_if_eq (tgt := 32) (pc' := 12) d_X8_agentKind_9 (by decide) rfl) (fun h7 => ?_) (fun h7 => ?_)
  · exact gg_eq (if_pos (Or.inl h7)) hA5
  · refine gg_st (go_iload_n 2 d_X8_agentKind_12 rfl rfl rfl) ?_
    refine gg_st (go_bipush d_X8_agentKind_13 cb_12 rfl) ?_
    refine gg_brs (br_icmp_ge (tgt := 32) (pc' := 18) d_X8_agentKind_15 (by decide) rfl) (fun h8 => ?_) (fun h8 => ?_)
    · exact gg_eq (if_neg (fun z => z.elim h7 (fun z => z h8))) hB6
    · exact gg_eq (if_pos (Or.inr h8)) hA5
def f_X7_putAgents_L5 (F : Nat) (c2 : Int32) : Nat → Int32 → Int32 → St → Option (St)
  | 0, _, _, _ => none
  | n + 1, v1, v2, g =>
    Option.bind (f_X8_agentsIn c2 g) fun x3 =>
    if (v2 < x3) ∧ (v2 < (12 : Int32)) then (
      Option.bind (f_X8_agentKind c2 v2 g) fun x4 =>
      Option.bind (f_X4_add F (77) x4 v1 g) fun x5 =>
      if inb v2 12 then (
        Option.bind (some (seti x5.2 (35) (ix v2) x5.1)) fun s7 =>
        if inb v2 12 then (
          Option.bind (some ((s7.1 (35) (ix v2)) + (1 : Int32))) fun x9 =>
          f_X7_putAgents_L5 F c2 n x9 (v2 + (1 : Int32)) s7)
        else none)
      else none)
    else (
      some g)
def f_X7_putAgents (F : Nat) (p1 : Int32) (σ : St) : Option (St) :=
  Option.bind (f_X7_putAgents_L5 F p1 F (0 : Int32) (0 : Int32) σ) fun t14 =>
  some t14
set_option maxRecDepth 20000 in
theorem g_f_X7_putAgents_L5 (l : Launch) (w : Wo) (F : Nat) (c2 : Int32) : ∀ (n : Nat) (v1 : Int32) (v2 : Int32) (g : St), GG l w shC m_X7_putAgents 4 5 [some (.ref (31)), some (.ref (64)), some (.int c2), some (.int v1), some (.int v2)] [] g (f_X7_putAgents_L5 F c2 n v1 v2 g) (fun (t : St) => .inl (66, [none, none, none, none, none], [], t)) := by
  intro n
  induction n with
  | zero =>
    intro v1 v2 g
    exact gg_none
  | succ n ih =>
    intro v1 v2 g
    rw [f_X7_putAgents_L5]
    refine gg_st (go_iload 4 d_X7_putAgents_5 rfl rfl) ?_
    refine gg_st (go_aload_n 1 d_X7_putAgents_7 rfl rfl rfl) ?_
    refine gg_st (go_getR (j := 1) cf0 sC_64 rfl (by decide) fl_X7_25 d_X7_putAgents_8 rfl) ?_
    refine gg_st (go_iload_n 2 d_X7_putAgents_11 rfl rfl rfl) ?_
    refine gv_I (k_X8_agentsIn l w c2 g) cv_X7_113 sC_69 (Nat.le_of_ble_eq_true rfl) rfl rfl (Nat.le_of_ble_eq_true rfl) d_X7_putAgents_12 rfl (fun x3 => ?_)
    refine gg_two (c := (v2 < x3) ∧ (v2 < (12 : Int32))) (pA := 25) (pB := 66) (LL := [some (.ref (31)), some (.ref (64)), some (.int c2), some (.int v1), some (.int v2)]) (ss := []) ?_ ?_ (fun hA10 hB11 => ?_)
    · refine gg_st (go_aload_n 0 d_X7_putAgents_25 rfl rfl rfl) ?_
      refine gg_st (go_getR (j := 3) cf7 sC_31 rfl (by decide) fl_X7_22 d_X7_putAgents_26 rfl) ?_
      refine gg_st (go_iload 4 d_X7_putAgents_29 rfl rfl) ?_
      refine gg_st (go_aload_n 1 d_X7_putAgents_31 rfl rfl rfl) ?_
      refine gg_st (go_getR (j := 2) cf0 sC_64 rfl (by decide) fl_X7_37 d_X7_putAgents_32 rfl) ?_
      refine gg_st (go_aload_n 1 d_X7_putAgents_35 rfl rfl rfl) ?_
      refine gg_st (go_getR (j := 1) cf0 sC_64 rfl (by decide) fl_X7_25 d_X7_putAgents_36 rfl) ?_
      refine gg_st (go_iload_n 2 d_X7_putAgents_39 rfl rfl rfl) ?_
      refine gg_st (go_iload 4 d_X7_putAgents_40 rfl rfl) ?_
      refine gv_I (k_X8_agentKind l w c2 v2 g) cv_X7_116 sC_69 (Nat.le_of_ble_eq_true rfl) rfl rfl (Nat.le_of_ble_eq_true rfl) d_X7_putAgents_42 rfl (fun x4 => ?_)
      refine gg_st (go_iload_n 3 d_X7_putAgents_45 rfl rfl rfl) ?_
      refine gv_IS (k_X4_add l w F (show 77 ∈ st27_77 by decide) x4 v1 g) cv_X7_119 sC_77 (Nat.le_of_ble_eq_true rfl) rfl rfl (Nat.le_of_ble_eq_true rfl) d_X7_putAgents_46 rfl (fun x5 => ?_)
      refine gg_gd (fun h6 => ?_)
      refine gg_st (go_iast sC_35 h6 d_X7_putAgents_49 rfl) ?_
      refine gg_som (fun s7 => ?_)
      refine gg_st (go_aload_n 0 d_X7_putAgents_50 rfl rfl rfl) ?_
      refine gg_st (go_getR (j := 3) cf7 sC_31 rfl (by decide) fl_X7_22 d_X7_putAgents_51 rfl) ?_
      refine gg_st (go_iload 4 d_X7_putAgents_54 rfl rfl) ?_
      refine gg_gd (fun h8 => ?_)
      refine gg_st (go_iald sC_35 h8 d_X7_putAgents_56 rfl) ?_
      refine gg_st (go_iconst d_X7_putAgents_57 ci_1 rfl) ?_
      refine gg_st (go_iadd d_X7_putAgents_58 rfl) ?_
      refine gg_nm (fun _ => [some (.ref (31)), some (.ref (64)), some (.int c2), some (.int v1), some (.int v2)]) (fun (x9 : Int32) => [.int x9]) (fun x9 => ?_)
      refine gg_st (go_istore_n 3 d_X7_putAgents_59 rfl (by decide) (L' := [some (.ref (31)), some (.ref (64)), some (.int c2), some (.int x9), some (.int v2)]) rfl rfl) ?_
      refine gg_st (go_iinc 4 d_X7_putAgents_60 rfl (v := v2 + (1 : Int32)) (by rw [ci_1]) (by decide) (L' := [some (.ref (31)), some (.ref (64)), some (.int c2), some (.int x9), some (.int (v2 + (1 : Int32)))]) rfl rfl) ?_
      refine gg_st (go_goto (pc' := 5) d_X7_putAgents_63 (by decide)) ?_
      exact ih x9 (v2 + (1 : Int32)) s7
    · refine gg_st (go_fg [none, none, none, none, none] trivial) ?_
      exact gg_end rfl
    refine gg_brs (br_icmp_ge (tgt := 66) (pc' := 18) d_X7_putAgents_15 (by decide) rfl) (fun h12 => ?_) (fun h12 => ?_)
    · refine gg_st (go_iload 4 d_X7_putAgents_18 rfl rfl) ?_
      refine gg_st (go_bipush d_X7_putAgents_20 cb_12 rfl) ?_
      refine gg_brs (br_icmp_ge (tgt := 66) (pc' := 25) d_X7_putAgents_22 (by decide) rfl) (fun h13 => ?_) (fun h13 => ?_)
      · exact gg_eq (if_pos ⟨h12, h13⟩) hA10
      · exact gg_eq (if_neg (fun z => h13 z.2)) hB11
    · exact gg_eq (if_neg (fun z => h12 z.1)) hB11
set_option maxRecDepth 20000 in
theorem k_X7_putAgents (l : Launch) (w : Wo) (F : Nat) (p1 : Int32) (σ : St) : K l w shC m_X7_putAgents 4 [.ref (31), .ref (64), .int p1] σ (f_X7_putAgents F p1 σ) (rV) := by
  refine k_of (L := [some (.ref (31)), some (.ref (64)), some (.int p1), none, none]) (plainFor_of_name (by decide +kernel)) 2 rfl (Nat.le_of_ble_eq_true rfl) ?_
  unfold f_X7_putAgents
  refine gg_st (go_iconst d_X7_putAgents_0 ci_0 rfl) ?_
  refine gg_st (go_istore_n 3 d_X7_putAgents_1 rfl (by decide) (L' := [some (.ref (31)), some (.ref (64)), some (.int p1), some (.int (0 : Int32)), none]) rfl rfl) ?_
  refine gg_st (go_iconst d_X7_putAgents_2 ci_0 rfl) ?_
  refine gg_st (go_istore 4 d_X7_putAgents_3 (by decide) (L' := [some (.ref (31)), some (.ref (64)), some (.int p1), some (.int (0 : Int32)), some (.int (0 : Int32))]) rfl rfl) ?_
  refine gg_bind 66 (fun (t14 : St) => [none, none, none, none, none]) (fun (t14 : St) => []) (fun (t14 : St) => t14) (g_f_X7_putAgents_L5 l w F p1 F (0 : Int32) (0 : Int32) σ) (fun t14 => ?_)
  exact gg_vret rfl d_X7_putAgents_66 rfl
def f_X4_join (p1 : Int32) (p2 : Int32) (σ : St) : Option (St) :=
  Option.bind (f_X4_setWire (77) p1 p2 σ) fun s1 =>
  Option.bind (f_X4_setWire (77) p2 p1 s1) fun s2 =>
  some s2
set_option maxRecDepth 20000 in
theorem k_X4_join (l : Launch) (w : Wo) (p1 : Int32) (p2 : Int32) (σ : St) : K l w shC m_X4_join 3 [.ref (77), .int p1, .int p2] σ (f_X4_join p1 p2 σ) (rV) := by
  refine k_of (L := [some (.ref (77)), some (.int p1), some (.int p2)]) (plainFor_of_name (by decide +kernel)) 0 rfl (Nat.le_of_ble_eq_true rfl) ?_
  unfold f_X4_join
  refine gg_st (go_aload_n 0 d_X4_join_0 rfl rfl rfl) ?_
  refine gg_st (go_iload_n 1 d_X4_join_1 rfl rfl rfl) ?_
  refine gg_st (go_iload_n 2 d_X4_join_2 rfl rfl rfl) ?_
  refine gv_V (k_X4_setWire l w (show 77 ∈ st27_77 by decide) p1 p2 σ) cv_X4_67 sC_77 (Nat.le_of_ble_eq_true rfl) rfl rfl (Nat.le_of_ble_eq_true rfl) d_X4_join_3 rfl (fun s1 => ?_)
  refine gg_st (go_aload_n 0 d_X4_join_6 rfl rfl rfl) ?_
  refine gg_st (go_iload_n 2 d_X4_join_7 rfl rfl rfl) ?_
  refine gg_st (go_iload_n 1 d_X4_join_8 rfl rfl rfl) ?_
  refine gv_V (k_X4_setWire l w (show 77 ∈ st27_77 by decide) p2 p1 s1) cv_X4_67 sC_77 (Nat.le_of_ble_eq_true rfl) rfl rfl (Nat.le_of_ble_eq_true rfl) d_X4_join_9 rfl (fun s2 => ?_)
  exact gg_vret rfl d_X4_join_12 rfl
def f_X7_wireAgents_L41 (F : Nat) (c2 : Int32) (c3 : Int32) (c4 : Int32) : Nat → Int32 → St → Option (St)
  | 0, _, _ => none
  | n + 1, v5, g =>
    if v5 < c4 then (
      Option.bind (some (f_X11_portCode c3 v5)) fun x7 =>
      Option.bind (f_X7_follow F c2 x7 g) fun x8 =>
      if inb c3 12 then (
        Option.bind (some (f_X11_portCode (x8.2.1 (35) (ix c3)) v5)) fun x10 =>
        Option.bind (f_X4_join x10 x8.1 x8.2) fun s11 =>
        f_X7_wireAgents_L41 F c2 c3 c4 n (v5 + (1 : Int32)) s11)
      else none)
    else (
      some g)
def f_X7_wireAgents_L2 (F : Nat) (c2 : Int32) : Nat → Int32 → St → Option (St)
  | 0, _, _ => none
  | n + 1, v1, g =>
    Option.bind (f_X8_agentsIn c2 g) fun x2 =>
    if (v1 < x2) ∧ (v1 < (12 : Int32)) then (
      Option.bind (f_X8_agentKind c2 v1 g) fun x3 =>
      Option.bind (f_X3_portsOf (65) x3 g) fun x4 =>
      Option.bind (f_X7_wireAgents_L41 F c2 v1 x4 F (0 : Int32) g) fun t12 =>
      f_X7_wireAgents_L2 F c2 n (v1 + (1 : Int32)) t12)
    else (
      some g)
def f_X7_wireAgents (F : Nat) (p1 : Int32) (σ : St) : Option (St) :=
  Option.bind (f_X7_wireAgents_L2 F p1 F (0 : Int32) σ) fun t17 =>
  some t17
set_option maxRecDepth 20000 in
theorem g_f_X7_wireAgents_L41 (l : Launch) (w : Wo) (F : Nat) (c2 : Int32) (c3 : Int32) (c4 : Int32) : ∀ (n : Nat) (v5 : Int32) (g : St), GG l w shC m_X7_wireAgents 4 41 [some (.ref (31)), some (.ref (64)), some (.int c2), some (.int c3), some (.int c4), some (.int v5), none] [] g (f_X7_wireAgents_L41 F c2 c3 c4 n v5 g) (fun (t : St) => .inl (91, [some (.ref (31)), some (.ref (64)), some (.int c2), some (.int c3), none, none, none], [], t)) := by
  intro n
  induction n with
  | zero =>
    intro v5 g
    exact gg_none
  | succ n ih =>
    intro v5 g
    rw [f_X7_wireAgents_L41]
    refine gg_st (go_iload 5 d_X7_wireAgents_41 rfl rfl) ?_
    refine gg_st (go_iload 4 d_X7_wireAgents_43 rfl rfl) ?_
    refine gg_br (br_icmp_ge (tgt := 91) (pc' := 48) d_X7_wireAgents_45 (by decide) rfl) (fun h6 => ?_) (fun h6 => ?_)
    · refine gg_st (go_aload_n 0 d_X7_wireAgents_48 rfl rfl rfl) ?_
      refine gg_st (go_aload_n 1 d_X7_wireAgents_49 rfl rfl rfl) ?_
      refine gg_st (go_getR (j := 1) cf0 sC_64 rfl (by decide) fl_X7_25 d_X7_wireAgents_50 rfl) ?_
      refine gg_st (go_iload_n 2 d_X7_wireAgents_53 rfl rfl rfl) ?_
      refine gg_st (go_iload_n 3 d_X7_wireAgents_54 rfl rfl rfl) ?_
      refine gg_st (go_iload 5 d_X7_wireAgents_55 rfl rfl) ?_
      refine gs_I (k_X11_portCode l w c3 v5 g) cs_X7_93 (Nat.le_of_ble_eq_true rfl) rfl rfl (Nat.le_of_ble_eq_true rfl) d_X7_wireAgents_57 rfl (fun x7 => ?_)
      refine gv_IS (k_X7_follow l w F c2 x7 g) cv_X7_122 sC_31 (Nat.le_of_ble_eq_true rfl) rfl rfl (Nat.le_of_ble_eq_true rfl) d_X7_wireAgents_60 rfl (fun x8 => ?_)
      refine gg_st (go_istore 6 d_X7_wireAgents_63 (by decide) (L' := [some (.ref (31)), some (.ref (64)), some (.int c2), some (.int c3), some (.int c4), some (.int v5), some (.int x8.1)]) rfl rfl) ?_
      refine gg_st (go_aload_n 1 d_X7_wireAgents_65 rfl rfl rfl) ?_
      refine gg_st (go_getR (j := 2) cf0 sC_64 rfl (by decide) fl_X7_37 d_X7_wireAgents_66 rfl) ?_
      refine gg_st (go_aload_n 0 d_X7_wireAgents_69 rfl rfl rfl) ?_
      refine gg_st (go_getR (j := 3) cf7 sC_31 rfl (by decide) fl_X7_22 d_X7_wireAgents_70 rfl) ?_
      refine gg_st (go_iload_n 3 d_X7_wireAgents_73 rfl rfl rfl) ?_
      refine gg_gd (fun h9 => ?_)
      refine gg_st (go_iald sC_35 h9 d_X7_wireAgents_74 rfl) ?_
      refine gg_st (go_iload 5 d_X7_wireAgents_75 rfl rfl) ?_
      refine gs_I (k_X11_portCode l w (x8.2.1 (35) (ix c3)) v5 x8.2) cs_X7_93 (Nat.le_of_ble_eq_true rfl) rfl rfl (Nat.le_of_ble_eq_true rfl) d_X7_wireAgents_77 rfl (fun x10 => ?_)
      refine gg_st (go_iload 6 d_X7_wireAgents_80 rfl rfl) ?_
      refine gv_V (k_X4_join l w x10 x8.1 x8.2) cv_X7_126 sC_77 (Nat.le_of_ble_eq_true rfl) rfl rfl (Nat.le_of_ble_eq_true rfl) d_X7_wireAgents_82 rfl (fun s11 => ?_)
      refine gg_st (go_iinc 5 d_X7_wireAgents_85 rfl (v := v5 + (1 : Int32)) (by rw [ci_1]) (by decide) (L' := [some (.ref (31)), some (.ref (64)), some (.int c2), some (.int c3), some (.int c4), some (.int (v5 + (1 : Int32))), some (.int x8.1)]) rfl rfl) ?_
      refine gg_st (go_goto (pc' := 41) d_X7_wireAgents_88 (by decide)) ?_
      refine gg_st (go_fg [some (.ref (31)), some (.ref (64)), some (.int c2), some (.int c3), some (.int c4), some (.int (v5 + (1 : Int32))), none] ⟨rfl, ⟨rfl, ⟨rfl, ⟨rfl, ⟨rfl, ⟨rfl, trivial⟩⟩⟩⟩⟩⟩) ?_
      exact ih (v5 + (1 : Int32)) s11
    · refine gg_st (go_fg [some (.ref (31)), some (.ref (64)), some (.int c2), some (.int c3), none, none, none] ⟨rfl, ⟨rfl, ⟨rfl, ⟨rfl, trivial⟩⟩⟩⟩) ?_
      exact gg_end rfl
set_option maxRecDepth 20000 in
theorem g_f_X7_wireAgents_L2 (l : Launch) (w : Wo) (F : Nat) (c2 : Int32) : ∀ (n : Nat) (v1 : Int32) (g : St), GG l w shC m_X7_wireAgents 4 2 [some (.ref (31)), some (.ref (64)), some (.int c2), some (.int v1), none, none, none] [] g (f_X7_wireAgents_L2 F c2 n v1 g) (fun (t : St) => .inl (97, [none, none, none, none, none, none, none], [], t)) := by
  intro n
  induction n with
  | zero =>
    intro v1 g
    exact gg_none
  | succ n ih =>
    intro v1 g
    rw [f_X7_wireAgents_L2]
    refine gg_st (go_iload_n 3 d_X7_wireAgents_2 rfl rfl rfl) ?_
    refine gg_st (go_aload_n 1 d_X7_wireAgents_3 rfl rfl rfl) ?_
    refine gg_st (go_getR (j := 1) cf0 sC_64 rfl (by decide) fl_X7_25 d_X7_wireAgents_4 rfl) ?_
    refine gg_st (go_iload_n 2 d_X7_wireAgents_7 rfl rfl rfl) ?_
    refine gv_I (k_X8_agentsIn l w c2 g) cv_X7_113 sC_69 (Nat.le_of_ble_eq_true rfl) rfl rfl (Nat.le_of_ble_eq_true rfl) d_X7_wireAgents_8 rfl (fun x2 => ?_)
    refine gg_two (c := (v1 < x2) ∧ (v1 < (12 : Int32))) (pA := 20) (pB := 97) (LL := [some (.ref (31)), some (.ref (64)), some (.int c2), some (.int v1), none, none, none]) (ss := []) ?_ ?_ (fun hA13 hB14 => ?_)
    · refine gg_st (go_aload_n 1 d_X7_wireAgents_20 rfl rfl rfl) ?_
      refine gg_st (go_getR (j := 0) cf0 sC_64 rfl (by decide) fl_X7_78 d_X7_wireAgents_21 rfl) ?_
      refine gg_st (go_aload_n 1 d_X7_wireAgents_24 rfl rfl rfl) ?_
      refine gg_st (go_getR (j := 1) cf0 sC_64 rfl (by decide) fl_X7_25 d_X7_wireAgents_25 rfl) ?_
      refine gg_st (go_iload_n 2 d_X7_wireAgents_28 rfl rfl rfl) ?_
      refine gg_st (go_iload_n 3 d_X7_wireAgents_29 rfl rfl rfl) ?_
      refine gv_I (k_X8_agentKind l w c2 v1 g) cv_X7_116 sC_69 (Nat.le_of_ble_eq_true rfl) rfl rfl (Nat.le_of_ble_eq_true rfl) d_X7_wireAgents_30 rfl (fun x3 => ?_)
      refine gv_I (k_X3_portsOf l w (show 65 ∈ st15_65 by decide) x3 g) cv_X7_82 sC_65 (Nat.le_of_ble_eq_true rfl) rfl rfl (Nat.le_of_ble_eq_true rfl) d_X7_wireAgents_33 rfl (fun x4 => ?_)
      refine gg_st (go_istore 4 d_X7_wireAgents_36 (by decide) (L' := [some (.ref (31)), some (.ref (64)), some (.int c2), some (.int v1), some (.int x4), none, none]) rfl rfl) ?_
      refine gg_st (go_iconst d_X7_wireAgents_38 ci_0 rfl) ?_
      refine gg_st (go_istore 5 d_X7_wireAgents_39 (by decide) (L' := [some (.ref (31)), some (.ref (64)), some (.int c2), some (.int v1), some (.int x4), some (.int (0 : Int32)), none]) rfl rfl) ?_
      refine gg_bind 91 (fun (t12 : St) => [some (.ref (31)), some (.ref (64)), some (.int c2), some (.int v1), none, none, none]) (fun (t12 : St) => []) (fun (t12 : St) => t12) (g_f_X7_wireAgents_L41 l w F c2 v1 x4 F (0 : Int32) g) (fun t12 => ?_)
      refine gg_st (go_iinc 3 d_X7_wireAgents_91 rfl (v := v1 + (1 : Int32)) (by rw [ci_1]) (by decide) (L' := [some (.ref (31)), some (.ref (64)), some (.int c2), some (.int (v1 + (1 : Int32))), none, none, none]) rfl rfl) ?_
      refine gg_st (go_goto (pc' := 2) d_X7_wireAgents_94 (by decide)) ?_
      exact ih (v1 + (1 : Int32)) t12
    · refine gg_st (go_fg [none, none, none, none, none, none, none] trivial) ?_
      exact gg_end rfl
    refine gg_brs (br_icmp_ge (tgt := 97) (pc' := 14) d_X7_wireAgents_11 (by decide) rfl) (fun h15 => ?_) (fun h15 => ?_)
    · refine gg_st (go_iload_n 3 d_X7_wireAgents_14 rfl rfl rfl) ?_
      refine gg_st (go_bipush d_X7_wireAgents_15 cb_12 rfl) ?_
      refine gg_brs (br_icmp_ge (tgt := 97) (pc' := 20) d_X7_wireAgents_17 (by decide) rfl) (fun h16 => ?_) (fun h16 => ?_)
      · exact gg_eq (if_pos ⟨h15, h16⟩) hA13
      · exact gg_eq (if_neg (fun z => h16 z.2)) hB14
    · exact gg_eq (if_neg (fun z => h15 z.1)) hB14
set_option maxRecDepth 20000 in
theorem k_X7_wireAgents (l : Launch) (w : Wo) (F : Nat) (p1 : Int32) (σ : St) : K l w shC m_X7_wireAgents 4 [.ref (31), .ref (64), .int p1] σ (f_X7_wireAgents F p1 σ) (rV) := by
  refine k_of (L := [some (.ref (31)), some (.ref (64)), some (.int p1), none, none, none, none]) (plainFor_of_name (by decide +kernel)) 4 rfl (Nat.le_of_ble_eq_true rfl) ?_
  unfold f_X7_wireAgents
  refine gg_st (go_iconst d_X7_wireAgents_0 ci_0 rfl) ?_
  refine gg_st (go_istore_n 3 d_X7_wireAgents_1 rfl (by decide) (L' := [some (.ref (31)), some (.ref (64)), some (.int p1), some (.int (0 : Int32)), none, none, none]) rfl rfl) ?_
  refine gg_bind 97 (fun (t17 : St) => [none, none, none, none, none, none, none]) (fun (t17 : St) => []) (fun (t17 : St) => t17) (g_f_X7_wireAgents_L2 l w F p1 F (0 : Int32) σ) (fun t17 => ?_)
  exact gg_vret rfl d_X7_wireAgents_97 rfl
def f_X7_wireOuter_L2 (F : Nat) (c2 : Int32) : Nat → Int32 → St → Option (St)
  | 0, _, _ => none
  | n + 1, v1, g =>
    if v1 < (8 : Int32) then (
      if inb v1 8 then (
        Option.bind (
          if (g.1 (34) (ix v1)) = 0 then (
            if inb v1 8 then (
              if (g.1 (33) (ix v1)) = (-1 : Int32) then (
                if inb v1 8 then (
                  Option.bind (some (f_X11_endCode v1)) fun x12 =>
                  Option.bind (f_X7_follow F c2 x12 g) fun x13 =>
                  Option.bind (f_X4_join (g.1 (32) (ix v1)) x13.1 x13.2) fun s14 =>
                  some s14)
                else none)
              else (
                some g))
            else none)
          else (
            some g)) fun t5 =>
        f_X7_wireOuter_L2 F c2 n (v1 + (1 : Int32)) t5)
      else none)
    else (
      some g)
def f_X7_wireOuter (F : Nat) (p1 : Int32) (σ : St) : Option (St) :=
  Option.bind (f_X7_wireOuter_L2 F p1 F (0 : Int32) σ) fun t15 =>
  some t15
set_option maxRecDepth 20000 in
theorem g_f_X7_wireOuter_L2 (l : Launch) (w : Wo) (F : Nat) (c2 : Int32) : ∀ (n : Nat) (v1 : Int32) (g : St), GG l w shC m_X7_wireOuter 4 2 [some (.ref (31)), some (.ref (64)), some (.int c2), some (.int v1)] [] g (f_X7_wireOuter_L2 F c2 n v1 g) (fun (t : St) => .inl (59, [none, none, none, none], [], t)) := by
  intro n
  induction n with
  | zero =>
    intro v1 g
    exact gg_none
  | succ n ih =>
    intro v1 g
    rw [f_X7_wireOuter_L2]
    refine gg_st (go_iload_n 3 d_X7_wireOuter_2 rfl rfl rfl) ?_
    refine gg_st (go_bipush d_X7_wireOuter_3 cb_8 rfl) ?_
    refine gg_br (br_icmp_ge (tgt := 59) (pc' := 8) d_X7_wireOuter_5 (by decide) rfl) (fun h3 => ?_) (fun h3 => ?_)
    · refine gg_st (go_aload_n 0 d_X7_wireOuter_8 rfl rfl rfl) ?_
      refine gg_st (go_getR (j := 2) cf7 sC_31 rfl (by decide) fl_X7_18 d_X7_wireOuter_9 rfl) ?_
      refine gg_st (go_iload_n 3 d_X7_wireOuter_12 rfl rfl rfl) ?_
      refine gg_gd (fun h4 => ?_)
      refine gg_st (go_zald sC_34 h4 d_X7_wireOuter_13 rfl) ?_
      refine gg_bind 53 (fun (t5 : St) => [some (.ref (31)), some (.ref (64)), some (.int c2), some (.int v1)]) (fun (t5 : St) => []) (fun (t5 : St) => t5) ?_ (fun t5 => ?_)
      · refine gg_br (br_if_ne (tgt := 53) (pc' := 17) d_X7_wireOuter_14 (by decide) rfl) (fun h7 => ?_) (fun h7 => ?_)
        · refine gg_st (go_aload_n 0 d_X7_wireOuter_17 rfl rfl rfl) ?_
          refine gg_st (go_getR (j := 1) cf7 sC_31 rfl (by decide) fl_X7_15 d_X7_wireOuter_18 rfl) ?_
          refine gg_st (go_iload_n 3 d_X7_wireOuter_21 rfl rfl rfl) ?_
          refine gg_gd (fun h8 => ?_)
          refine gg_st (go_iald sC_33 h8 d_X7_wireOuter_22 rfl) ?_
          refine gg_st (go_iconst d_X7_wireOuter_23 ci_m1 rfl) ?_
          refine gg_br (br_icmp_ne (tgt := 53) (pc' := 27) d_X7_wireOuter_24 (by decide) rfl) (fun h10 => ?_) (fun h10 => ?_)
          · refine gg_st (go_aload_n 1 d_X7_wireOuter_27 rfl rfl rfl) ?_
            refine gg_st (go_getR (j := 2) cf0 sC_64 rfl (by decide) fl_X7_37 d_X7_wireOuter_28 rfl) ?_
            refine gg_st (go_aload_n 0 d_X7_wireOuter_31 rfl rfl rfl) ?_
            refine gg_st (go_getR (j := 0) cf7 sC_31 rfl (by decide) fl_X7_9 d_X7_wireOuter_32 rfl) ?_
            refine gg_st (go_iload_n 3 d_X7_wireOuter_35 rfl rfl rfl) ?_
            refine gg_gd (fun h11 => ?_)
            refine gg_st (go_iald sC_32 h11 d_X7_wireOuter_36 rfl) ?_
            refine gg_st (go_aload_n 0 d_X7_wireOuter_37 rfl rfl rfl) ?_
            refine gg_st (go_aload_n 1 d_X7_wireOuter_38 rfl rfl rfl) ?_
            refine gg_st (go_getR (j := 1) cf0 sC_64 rfl (by decide) fl_X7_25 d_X7_wireOuter_39 rfl) ?_
            refine gg_st (go_iload_n 2 d_X7_wireOuter_42 rfl rfl rfl) ?_
            refine gg_st (go_iload_n 3 d_X7_wireOuter_43 rfl rfl rfl) ?_
            refine gs_I (k_X11_endCode l w v1 g) cs_X7_130 (Nat.le_of_ble_eq_true rfl) rfl rfl (Nat.le_of_ble_eq_true rfl) d_X7_wireOuter_44 rfl (fun x12 => ?_)
            refine gv_IS (k_X7_follow l w F c2 x12 g) cv_X7_122 sC_31 (Nat.le_of_ble_eq_true rfl) rfl rfl (Nat.le_of_ble_eq_true rfl) d_X7_wireOuter_47 rfl (fun x13 => ?_)
            refine gv_V (k_X4_join l w (g.1 (32) (ix v1)) x13.1 x13.2) cv_X7_126 sC_77 (Nat.le_of_ble_eq_true rfl) rfl rfl (Nat.le_of_ble_eq_true rfl) d_X7_wireOuter_50 rfl (fun s14 => ?_)
            exact gg_end rfl
          · exact gg_end rfl
        · exact gg_end rfl
      · refine gg_st (go_iinc 3 d_X7_wireOuter_53 rfl (v := v1 + (1 : Int32)) (by rw [ci_1]) (by decide) (L' := [some (.ref (31)), some (.ref (64)), some (.int c2), some (.int (v1 + (1 : Int32)))]) rfl rfl) ?_
        refine gg_st (go_goto (pc' := 2) d_X7_wireOuter_56 (by decide)) ?_
        exact ih (v1 + (1 : Int32)) t5
    · refine gg_st (go_fg [none, none, none, none] trivial) ?_
      exact gg_end rfl
set_option maxRecDepth 20000 in
theorem k_X7_wireOuter (l : Launch) (w : Wo) (F : Nat) (p1 : Int32) (σ : St) : K l w shC m_X7_wireOuter 4 [.ref (31), .ref (64), .int p1] σ (f_X7_wireOuter F p1 σ) (rV) := by
  refine k_of (L := [some (.ref (31)), some (.ref (64)), some (.int p1), none]) (plainFor_of_name (by decide +kernel)) 1 rfl (Nat.le_of_ble_eq_true rfl) ?_
  unfold f_X7_wireOuter
  refine gg_st (go_iconst d_X7_wireOuter_0 ci_0 rfl) ?_
  refine gg_st (go_istore_n 3 d_X7_wireOuter_1 rfl (by decide) (L' := [some (.ref (31)), some (.ref (64)), some (.int p1), some (.int (0 : Int32))]) rfl rfl) ?_
  refine gg_bind 59 (fun (t15 : St) => [none, none, none, none]) (fun (t15 : St) => []) (fun (t15 : St) => t15) (g_f_X7_wireOuter_L2 l w F p1 F (0 : Int32) σ) (fun t15 => ?_)
  exact gg_vret rfl d_X7_wireOuter_59 rfl
def f_X8_firstKind (p1 : Int32) (σ : St) : Option (Int32) :=
  Option.bind (some (f_X8_has (69) p1 σ)) fun x1 =>
  if x1 = 0 then (
    some (-1 : Int32))
  else (
    if inb p1 60 then (
      some (σ.1 (71) (ix p1)))
    else none)
set_option maxRecDepth 20000 in
theorem k_X8_firstKind (l : Launch) (w : Wo) (p1 : Int32) (σ : St) : K l w shC m_X8_firstKind 2 [.ref (69), .int p1] σ (f_X8_firstKind p1 σ) (rI σ) := by
  refine k_of (L := [some (.ref (69)), some (.int p1)]) (plainFor_of_name (by decide +kernel)) 0 rfl (Nat.le_of_ble_eq_true rfl) ?_
  unfold f_X8_firstKind
  refine gg_st (go_aload_n 0 d_X8_firstKind_0 rfl rfl rfl) ?_
  refine gg_st (go_iload_n 1 d_X8_firstKind_1 rfl rfl rfl) ?_
  refine gv_I (k_X8_has l w (show 69 ∈ st19_69 by decide) p1 σ) cv_X8_51 sC_69 (Nat.le_of_ble_eq_true rfl) rfl rfl (Nat.le_of_ble_eq_true rfl) d_X8_firstKind_2 rfl (fun x1 => ?_)
  refine gg_br (br_if_eq (tgt := 17) (pc' := 8) d_X8_firstKind_5 (by decide) rfl) (fun h3 => ?_) (fun h3 => ?_)
  · refine gg_st (go_iconst d_X8_firstKind_17 ci_m1 rfl) ?_
    exact gg_iret rfl d_X8_firstKind_18 rfl
  · refine gg_st (go_aload_n 0 d_X8_firstKind_8 rfl rfl rfl) ?_
    refine gg_st (go_getR (j := 1) cf8 sC_69 rfl (by decide) fl_X8_15 d_X8_firstKind_9 rfl) ?_
    refine gg_st (go_iload_n 1 d_X8_firstKind_12 rfl rfl rfl) ?_
    refine gg_gd (fun h4 => ?_)
    refine gg_st (go_iald sC_71 h4 d_X8_firstKind_13 rfl) ?_
    refine gg_st (go_goto (pc' := 18) d_X8_firstKind_14 (by decide)) ?_
    exact gg_iret rfl d_X8_firstKind_18 rfl
def f_X8_ringsIn (p1 : Int32) (σ : St) : Option (Int32) :=
  Option.bind (some (f_X8_has (69) p1 σ)) fun x1 =>
  if x1 = 0 then (
    some (0 : Int32))
  else (
    if inb p1 60 then (
      some (σ.1 (73) (ix p1)))
    else none)
set_option maxRecDepth 20000 in
theorem k_X8_ringsIn (l : Launch) (w : Wo) (p1 : Int32) (σ : St) : K l w shC m_X8_ringsIn 2 [.ref (69), .int p1] σ (f_X8_ringsIn p1 σ) (rI σ) := by
  refine k_of (L := [some (.ref (69)), some (.int p1)]) (plainFor_of_name (by decide +kernel)) 0 rfl (Nat.le_of_ble_eq_true rfl) ?_
  unfold f_X8_ringsIn
  refine gg_st (go_aload_n 0 d_X8_ringsIn_0 rfl rfl rfl) ?_
  refine gg_st (go_iload_n 1 d_X8_ringsIn_1 rfl rfl rfl) ?_
  refine gv_I (k_X8_has l w (show 69 ∈ st19_69 by decide) p1 σ) cv_X8_51 sC_69 (Nat.le_of_ble_eq_true rfl) rfl rfl (Nat.le_of_ble_eq_true rfl) d_X8_ringsIn_2 rfl (fun x1 => ?_)
  refine gg_br (br_if_eq (tgt := 17) (pc' := 8) d_X8_ringsIn_5 (by decide) rfl) (fun h3 => ?_) (fun h3 => ?_)
  · refine gg_st (go_iconst d_X8_ringsIn_17 ci_0 rfl) ?_
    exact gg_iret rfl d_X8_ringsIn_18 rfl
  · refine gg_st (go_aload_n 0 d_X8_ringsIn_8 rfl rfl rfl) ?_
    refine gg_st (go_getR (j := 3) cf8 sC_69 rfl (by decide) fl_X8_21 d_X8_ringsIn_9 rfl) ?_
    refine gg_st (go_iload_n 1 d_X8_ringsIn_12 rfl rfl rfl) ?_
    refine gg_gd (fun h4 => ?_)
    refine gg_st (go_iald sC_73 h4 d_X8_ringsIn_13 rfl) ?_
    refine gg_st (go_goto (pc' := 18) d_X8_ringsIn_14 (by decide)) ?_
    exact gg_iret rfl d_X8_ringsIn_18 rfl
def f_X7_rewrite (F : Nat) (p1 : Int32) (p2 : Int32) (p3 : Int32) (σ : St) : Option (St) :=
  Option.bind (f_X8_firstKind p1 σ) fun x1 =>
  Option.bind (f_X4_kindOf (77) p2 σ) fun x2 =>
  Option.bind (
    if x1 = x2 then (
      some (1 : Int32))
    else (
      some (0 : Int32))) fun t3 =>
  Option.bind (
    if t3 = 0 then (
      some p3)
    else (
      some p2)) fun t5 =>
  Option.bind (
    if t3 = 0 then (
      some p2)
    else (
      some p3)) fun t7 =>
  Option.bind (f_X7_passAll F σ) fun s9 =>
  Option.bind (f_X7_noteOutside F t5 t7 (0 : Int32) s9) fun s10 =>
  Option.bind (f_X7_noteOutside F t7 t5 (4 : Int32) s10) fun s11 =>
  Option.bind (f_X4_remove F t5 s11) fun s12 =>
  Option.bind (f_X4_remove F t7 s12) fun s13 =>
  Option.bind (f_X7_putAgents F p1 s13) fun s14 =>
  Option.bind (f_X7_wireAgents F p1 s14) fun s15 =>
  Option.bind (f_X7_wireOuter F p1 s15) fun s16 =>
  Option.bind (f_X8_ringsIn p1 s16) fun x17 =>
  Option.bind (f_X7_countRings F p1 s16) fun x18 =>
  Option.bind (some (seti x18.2 (77) 5 ((s16.1 (77) 5) + (x17 + x18.1)))) fun s19 =>
  some s19
set_option maxRecDepth 20000 in
theorem k_X7_rewrite (l : Launch) (w : Wo) (F : Nat) (p1 : Int32) (p2 : Int32) (p3 : Int32) (σ : St) : K l w shC m_X7_rewrite 5 [.ref (31), .ref (64), .int p1, .int p2, .int p3] σ (f_X7_rewrite F p1 p2 p3 σ) (rV) := by
  refine k_of (L := [some (.ref (31)), some (.ref (64)), some (.int p1), some (.int p2), some (.int p3), none, none, none]) (plainFor_of_name (by decide +kernel)) 3 rfl (Nat.le_of_ble_eq_true rfl) ?_
  unfold f_X7_rewrite
  refine gg_st (go_aload_n 1 d_X7_rewrite_0 rfl rfl rfl) ?_
  refine gg_st (go_getR (j := 1) cf0 sC_64 rfl (by decide) fl_X7_25 d_X7_rewrite_1 rfl) ?_
  refine gg_st (go_iload_n 2 d_X7_rewrite_4 rfl rfl rfl) ?_
  refine gv_I (k_X8_firstKind l w p1 σ) cv_X7_31 sC_69 (Nat.le_of_ble_eq_true rfl) rfl rfl (Nat.le_of_ble_eq_true rfl) d_X7_rewrite_5 rfl (fun x1 => ?_)
  refine gg_st (go_aload_n 1 d_X7_rewrite_8 rfl rfl rfl) ?_
  refine gg_st (go_getR (j := 2) cf0 sC_64 rfl (by decide) fl_X7_37 d_X7_rewrite_9 rfl) ?_
  refine gg_st (go_iload_n 3 d_X7_rewrite_12 rfl rfl rfl) ?_
  refine gv_I (k_X4_kindOf l w (show 77 ∈ st39_43_47_51_77 by decide) p2 σ) cv_X7_41 sC_77 (Nat.le_of_ble_eq_true rfl) rfl rfl (Nat.le_of_ble_eq_true rfl) d_X7_rewrite_13 rfl (fun x2 => ?_)
  refine gg_bind 24 (fun (t3 : Int32) => [some (.ref (31)), some (.ref (64)), some (.int p1), some (.int p2), some (.int p3), none, none, none]) (fun (t3 : Int32) => [.int t3]) (fun (t3 : Int32) => σ) ?_ (fun t3 => ?_)
  · refine gg_br (br_icmp_ne (tgt := 23) (pc' := 19) d_X7_rewrite_16 (by decide) rfl) (fun h4 => ?_) (fun h4 => ?_)
    · refine gg_st (go_iconst d_X7_rewrite_19 ci_1 rfl) ?_
      refine gg_st (go_goto (pc' := 24) d_X7_rewrite_20 (by decide)) ?_
      exact gg_end rfl
    · refine gg_st (go_iconst d_X7_rewrite_23 ci_0 rfl) ?_
      exact gg_end rfl
  · refine gg_st (go_istore 5 d_X7_rewrite_24 (by decide) (L' := [some (.ref (31)), some (.ref (64)), some (.int p1), some (.int p2), some (.int p3), some (.int t3), none, none]) rfl rfl) ?_
    refine gg_st (go_iload 5 d_X7_rewrite_26 rfl rfl) ?_
    refine gg_bind 37 (fun (t5 : Int32) => [some (.ref (31)), some (.ref (64)), some (.int p1), some (.int p2), some (.int p3), some (.int t3), none, none]) (fun (t5 : Int32) => [.int t5]) (fun (t5 : Int32) => σ) ?_ (fun t5 => ?_)
    · refine gg_br (br_if_eq (tgt := 35) (pc' := 31) d_X7_rewrite_28 (by decide) rfl) (fun h6 => ?_) (fun h6 => ?_)
      · refine gg_st (go_iload 4 d_X7_rewrite_35 rfl rfl) ?_
        exact gg_end rfl
      · refine gg_st (go_iload_n 3 d_X7_rewrite_31 rfl rfl rfl) ?_
        refine gg_st (go_goto (pc' := 37) d_X7_rewrite_32 (by decide)) ?_
        exact gg_end rfl
    · refine gg_st (go_istore 6 d_X7_rewrite_37 (by decide) (L' := [some (.ref (31)), some (.ref (64)), some (.int p1), some (.int p2), some (.int p3), some (.int t3), some (.int t5), none]) rfl rfl) ?_
      refine gg_st (go_iload 5 d_X7_rewrite_39 rfl rfl) ?_
      refine gg_bind 50 (fun (t7 : Int32) => [some (.ref (31)), some (.ref (64)), some (.int p1), none, none, none, some (.int t5), none]) (fun (t7 : Int32) => [.int t7]) (fun (t7 : Int32) => σ) ?_ (fun t7 => ?_)
      · refine gg_br (br_if_eq (tgt := 49) (pc' := 44) d_X7_rewrite_41 (by decide) rfl) (fun h8 => ?_) (fun h8 => ?_)
        · refine gg_st (go_iload_n 3 d_X7_rewrite_49 rfl rfl rfl) ?_
          refine gg_st (go_fg [some (.ref (31)), some (.ref (64)), some (.int p1), none, none, none, some (.int t5), none] ⟨rfl, ⟨rfl, ⟨rfl, ⟨rfl, trivial⟩⟩⟩⟩) ?_
          exact gg_end rfl
        · refine gg_st (go_iload 4 d_X7_rewrite_44 rfl rfl) ?_
          refine gg_st (go_goto (pc' := 50) d_X7_rewrite_46 (by decide)) ?_
          refine gg_st (go_fg [some (.ref (31)), some (.ref (64)), some (.int p1), none, none, none, some (.int t5), none] ⟨rfl, ⟨rfl, ⟨rfl, ⟨rfl, trivial⟩⟩⟩⟩) ?_
          exact gg_end rfl
      · refine gg_st (go_istore 7 d_X7_rewrite_50 (by decide) (L' := [some (.ref (31)), some (.ref (64)), some (.int p1), none, none, none, some (.int t5), some (.int t7)]) rfl rfl) ?_
        refine gg_st (go_aload_n 0 d_X7_rewrite_52 rfl rfl rfl) ?_
        refine gv_V (k_X7_passAll l w F  σ) cv_X7_46 sC_31 (Nat.le_of_ble_eq_true rfl) rfl rfl (Nat.le_of_ble_eq_true rfl) d_X7_rewrite_53 rfl (fun s9 => ?_)
        refine gg_st (go_aload_n 0 d_X7_rewrite_56 rfl rfl rfl) ?_
        refine gg_st (go_aload_n 1 d_X7_rewrite_57 rfl rfl rfl) ?_
        refine gg_st (go_iload 6 d_X7_rewrite_58 rfl rfl) ?_
        refine gg_st (go_iload 7 d_X7_rewrite_60 rfl rfl) ?_
        refine gg_st (go_iconst d_X7_rewrite_62 ci_0 rfl) ?_
        refine gv_V (k_X7_noteOutside l w F t5 t7 (0 : Int32) s9) cv_X7_49 sC_31 (Nat.le_of_ble_eq_true rfl) rfl rfl (Nat.le_of_ble_eq_true rfl) d_X7_rewrite_63 rfl (fun s10 => ?_)
        refine gg_st (go_aload_n 0 d_X7_rewrite_66 rfl rfl rfl) ?_
        refine gg_st (go_aload_n 1 d_X7_rewrite_67 rfl rfl rfl) ?_
        refine gg_st (go_iload 7 d_X7_rewrite_68 rfl rfl) ?_
        refine gg_st (go_iload 6 d_X7_rewrite_70 rfl rfl) ?_
        refine gg_st (go_iconst d_X7_rewrite_72 ci_4 rfl) ?_
        refine gv_V (k_X7_noteOutside l w F t7 t5 (4 : Int32) s10) cv_X7_49 sC_31 (Nat.le_of_ble_eq_true rfl) rfl rfl (Nat.le_of_ble_eq_true rfl) d_X7_rewrite_73 rfl (fun s11 => ?_)
        refine gg_st (go_aload_n 1 d_X7_rewrite_76 rfl rfl rfl) ?_
        refine gg_st (go_getR (j := 2) cf0 sC_64 rfl (by decide) fl_X7_37 d_X7_rewrite_77 rfl) ?_
        refine gg_st (go_iload 6 d_X7_rewrite_80 rfl rfl) ?_
        refine gv_V (k_X4_remove l w F t5 s11) cv_X7_53 sC_77 (Nat.le_of_ble_eq_true rfl) rfl rfl (Nat.le_of_ble_eq_true rfl) d_X7_rewrite_82 rfl (fun s12 => ?_)
        refine gg_st (go_aload_n 1 d_X7_rewrite_85 rfl rfl rfl) ?_
        refine gg_st (go_getR (j := 2) cf0 sC_64 rfl (by decide) fl_X7_37 d_X7_rewrite_86 rfl) ?_
        refine gg_st (go_iload 7 d_X7_rewrite_89 rfl rfl) ?_
        refine gv_V (k_X4_remove l w F t7 s12) cv_X7_53 sC_77 (Nat.le_of_ble_eq_true rfl) rfl rfl (Nat.le_of_ble_eq_true rfl) d_X7_rewrite_91 rfl (fun s13 => ?_)
        refine gg_st (go_aload_n 0 d_X7_rewrite_94 rfl rfl rfl) ?_
        refine gg_st (go_aload_n 1 d_X7_rewrite_95 rfl rfl rfl) ?_
        refine gg_st (go_iload_n 2 d_X7_rewrite_96 rfl rfl rfl) ?_
        refine gv_V (k_X7_putAgents l w F p1 s13) cv_X7_57 sC_31 (Nat.le_of_ble_eq_true rfl) rfl rfl (Nat.le_of_ble_eq_true rfl) d_X7_rewrite_97 rfl (fun s14 => ?_)
        refine gg_st (go_aload_n 0 d_X7_rewrite_100 rfl rfl rfl) ?_
        refine gg_st (go_aload_n 1 d_X7_rewrite_101 rfl rfl rfl) ?_
        refine gg_st (go_iload_n 2 d_X7_rewrite_102 rfl rfl rfl) ?_
        refine gv_V (k_X7_wireAgents l w F p1 s14) cv_X7_61 sC_31 (Nat.le_of_ble_eq_true rfl) rfl rfl (Nat.le_of_ble_eq_true rfl) d_X7_rewrite_103 rfl (fun s15 => ?_)
        refine gg_st (go_aload_n 0 d_X7_rewrite_106 rfl rfl rfl) ?_
        refine gg_st (go_aload_n 1 d_X7_rewrite_107 rfl rfl rfl) ?_
        refine gg_st (go_iload_n 2 d_X7_rewrite_108 rfl rfl rfl) ?_
        refine gv_V (k_X7_wireOuter l w F p1 s15) cv_X7_64 sC_31 (Nat.le_of_ble_eq_true rfl) rfl rfl (Nat.le_of_ble_eq_true rfl) d_X7_rewrite_109 rfl (fun s16 => ?_)
        refine gg_st (go_aload_n 1 d_X7_rewrite_112 rfl rfl rfl) ?_
        refine gg_st (go_getR (j := 2) cf0 sC_64 rfl (by decide) fl_X7_37 d_X7_rewrite_113 rfl) ?_
        refine gg_st (go_dup d_X7_rewrite_116 rfl rfl) ?_
        refine gg_st (go_getI (j := 5) cf4 sC_77 rfl (by decide) fl_X7_67 d_X7_rewrite_117 rfl) ?_
        refine gg_st (go_aload_n 1 d_X7_rewrite_120 rfl rfl rfl) ?_
        refine gg_st (go_getR (j := 1) cf0 sC_64 rfl (by decide) fl_X7_25 d_X7_rewrite_121 rfl) ?_
        refine gg_st (go_iload_n 2 d_X7_rewrite_124 rfl rfl rfl) ?_
        refine gv_I (k_X8_ringsIn l w p1 s16) cv_X7_71 sC_69 (Nat.le_of_ble_eq_true rfl) rfl rfl (Nat.le_of_ble_eq_true rfl) d_X7_rewrite_125 rfl (fun x17 => ?_)
        refine gg_st (go_aload_n 0 d_X7_rewrite_128 rfl rfl rfl) ?_
        refine gg_st (go_aload_n 1 d_X7_rewrite_129 rfl rfl rfl) ?_
        refine gg_st (go_getR (j := 1) cf0 sC_64 rfl (by decide) fl_X7_25 d_X7_rewrite_130 rfl) ?_
        refine gg_st (go_iload_n 2 d_X7_rewrite_133 rfl rfl rfl) ?_
        refine gv_IS (k_X7_countRings l w F p1 s16) cv_X7_74 sC_31 (Nat.le_of_ble_eq_true rfl) rfl rfl (Nat.le_of_ble_eq_true rfl) d_X7_rewrite_134 rfl (fun x18 => ?_)
        refine gg_st (go_iadd d_X7_rewrite_137 rfl) ?_
        refine gg_st (go_iadd d_X7_rewrite_138 rfl) ?_
        refine gg_st (go_putI (j := 5) cf4 sC_77 rfl (by decide) rfl rfl fl_X7_67 d_X7_rewrite_139 rfl) ?_
        refine gg_som (fun s19 => ?_)
        exact gg_vret rfl d_X7_rewrite_142 rfl
def f_X11_takeStep (F : Nat) (p1 : Int32) (σ : St) : Option (Int32 × St) :=
  Option.bind (f_X0_aliveRule p1 σ) fun x1 =>
  Option.bind (f_X4_mateOf p1 σ) fun x2 =>
  if x1 = (-1 : Int32) then (
    some ((0 : Int32), σ))
  else (
    Option.bind (f_X8_agentsIn x1 σ) fun x4 =>
    if (400 : Int32) < (((σ.1 (77) 3) - (2 : Int32)) + x4) then (
      some ((0 : Int32), σ))
    else (
      Option.bind (some (f_J9_min_7cf53 p1 x2)) fun x6 =>
      Option.bind (some (f_J9_max_7cf53 p1 x2)) fun x7 =>
      Option.bind (f_X4_kindOf (77) x6 σ) fun x8 =>
      Option.bind (f_X4_kindOf (77) x7 σ) fun x9 =>
      Option.bind (f_X2_noteStep x8 x9 σ) fun s10 =>
      Option.bind (f_X7_rewrite F x1 x6 x7 s10) fun s11 =>
      Option.bind (f_X2_noteAgents (s11.1 (77) 3) s11) fun s12 =>
      some ((1 : Int32), s12)))
set_option maxRecDepth 20000 in
theorem k_X11_takeStep (l : Launch) (w : Wo) (F : Nat) (p1 : Int32) (σ : St) : K l w shC m_X11_takeStep 6 [.ref (0), .int p1] σ (f_X11_takeStep F p1 σ) (rIS) := by
  refine k_of (L := [some (.ref (0)), some (.int p1), none, none, none, none, none]) (plainFor_of_name (by decide +kernel)) 5 rfl (Nat.le_of_ble_eq_true rfl) ?_
  unfold f_X11_takeStep
  refine gg_st (go_aload_n 0 d_X11_takeStep_0 rfl rfl rfl) ?_
  refine gg_st (go_getR (j := 8) cf11 sC_0 rfl (by decide) fl_X11_61 d_X11_takeStep_1 rfl) ?_
  refine gg_st (go_getR (j := 2) cf0 sC_64 rfl (by decide) fl_X11_92 d_X11_takeStep_4 rfl) ?_
  refine gg_st (go_astore_n 2 d_X11_takeStep_7 rfl (by decide) (L' := [some (.ref (0)), some (.int p1), some (.ref (77)), none, none, none, none]) rfl rfl) ?_
  refine gg_st (go_aload_n 0 d_X11_takeStep_8 rfl rfl rfl) ?_
  refine gg_st (go_getR (j := 8) cf11 sC_0 rfl (by decide) fl_X11_61 d_X11_takeStep_9 rfl) ?_
  refine gg_st (go_iload_n 1 d_X11_takeStep_12 rfl rfl rfl) ?_
  refine gv_I (k_X0_aliveRule l w p1 σ) cv_X11_193 sC_64 (Nat.le_of_ble_eq_true rfl) rfl rfl (Nat.le_of_ble_eq_true rfl) d_X11_takeStep_13 rfl (fun x1 => ?_)
  refine gg_st (go_istore_n 3 d_X11_takeStep_16 rfl (by decide) (L' := [some (.ref (0)), some (.int p1), some (.ref (77)), some (.int x1), none, none, none]) rfl rfl) ?_
  refine gg_st (go_aload_n 2 d_X11_takeStep_17 rfl rfl rfl) ?_
  refine gg_st (go_iload_n 1 d_X11_takeStep_18 rfl rfl rfl) ?_
  refine gv_I (k_X4_mateOf l w p1 σ) cv_X11_238 sC_77 (Nat.le_of_ble_eq_true rfl) rfl rfl (Nat.le_of_ble_eq_true rfl) d_X11_takeStep_19 rfl (fun x2 => ?_)
  refine gg_st (go_istore 4 d_X11_takeStep_22 (by decide) (L' := [some (.ref (0)), some (.int p1), some (.ref (77)), some (.int x1), some (.int x2), none, none]) rfl rfl) ?_
  refine gg_st (go_iload_n 3 d_X11_takeStep_24 rfl rfl rfl) ?_
  refine gg_st (go_iconst d_X11_takeStep_25 ci_m1 rfl) ?_
  refine gg_br (br_icmp_eq (tgt := 53) (pc' := 29) d_X11_takeStep_26 (by decide) rfl) (fun h3 => ?_) (fun h3 => ?_)
  · refine gg_st (go_iconst d_X11_takeStep_53 ci_0 rfl) ?_
    exact gg_zret (Or.inl rfl) rfl d_X11_takeStep_54 rfl
  · refine gg_st (go_aload_n 2 d_X11_takeStep_29 rfl rfl rfl) ?_
    refine gg_st (go_getI (j := 3) cf4 sC_77 rfl (by decide) fl_X11_96 d_X11_takeStep_30 rfl) ?_
    refine gg_st (go_iconst d_X11_takeStep_33 ci_2 rfl) ?_
    refine gg_st (go_isub d_X11_takeStep_34 rfl) ?_
    refine gg_st (go_aload_n 0 d_X11_takeStep_35 rfl rfl rfl) ?_
    refine gg_st (go_getR (j := 8) cf11 sC_0 rfl (by decide) fl_X11_61 d_X11_takeStep_36 rfl) ?_
    refine gg_st (go_getR (j := 1) cf0 sC_64 rfl (by decide) fl_X11_115 d_X11_takeStep_39 rfl) ?_
    refine gg_st (go_iload_n 3 d_X11_takeStep_42 rfl rfl rfl) ?_
    refine gv_I (k_X8_agentsIn l w x1 σ) cv_X11_171 sC_69 (Nat.le_of_ble_eq_true rfl) rfl rfl (Nat.le_of_ble_eq_true rfl) d_X11_takeStep_43 rfl (fun x4 => ?_)
    refine gg_st (go_iadd d_X11_takeStep_46 rfl) ?_
    refine gg_st (go_sipush d_X11_takeStep_47 cs_400 rfl) ?_
    refine gg_br (br_icmp_le (tgt := 55) (pc' := 53) d_X11_takeStep_50 (by decide) rfl) (fun h5 => ?_) (fun h5 => ?_)
    · refine gg_st (go_iconst d_X11_takeStep_53 ci_0 rfl) ?_
      exact gg_zret (Or.inl rfl) rfl d_X11_takeStep_54 rfl
    · refine gg_st (go_iload_n 1 d_X11_takeStep_55 rfl rfl rfl) ?_
      refine gg_st (go_iload 4 d_X11_takeStep_56 rfl rfl) ?_
      refine gs_I (k_J9_min_7cf53 l w p1 x2 σ) cs_X11_241 (Nat.le_of_ble_eq_true rfl) rfl rfl (Nat.le_of_ble_eq_true rfl) d_X11_takeStep_58 rfl (fun x6 => ?_)
      refine gg_st (go_istore 5 d_X11_takeStep_61 (by decide) (L' := [some (.ref (0)), some (.int p1), some (.ref (77)), some (.int x1), some (.int x2), some (.int x6), none]) rfl rfl) ?_
      refine gg_st (go_iload_n 1 d_X11_takeStep_63 rfl rfl rfl) ?_
      refine gg_st (go_iload 4 d_X11_takeStep_64 rfl rfl) ?_
      refine gs_I (k_J9_max_7cf53 l w p1 x2 σ) cs_X11_246 (Nat.le_of_ble_eq_true rfl) rfl rfl (Nat.le_of_ble_eq_true rfl) d_X11_takeStep_66 rfl (fun x7 => ?_)
      refine gg_st (go_istore 6 d_X11_takeStep_69 (by decide) (L' := [some (.ref (0)), some (.int p1), some (.ref (77)), some (.int x1), some (.int x2), some (.int x6), some (.int x7)]) rfl rfl) ?_
      refine gg_st (go_aload_n 0 d_X11_takeStep_71 rfl rfl rfl) ?_
      refine gg_st (go_getR (j := 2) cf11 sC_0 rfl (by decide) fl_X11_26 d_X11_takeStep_72 rfl) ?_
      refine gg_st (go_aload_n 2 d_X11_takeStep_75 rfl rfl rfl) ?_
      refine gg_st (go_iload 5 d_X11_takeStep_76 rfl rfl) ?_
      refine gv_I (k_X4_kindOf l w (show 77 ∈ st39_43_47_51_77 by decide) x6 σ) cv_X11_175 sC_77 (Nat.le_of_ble_eq_true rfl) rfl rfl (Nat.le_of_ble_eq_true rfl) d_X11_takeStep_78 rfl (fun x8 => ?_)
      refine gg_st (go_aload_n 2 d_X11_takeStep_81 rfl rfl rfl) ?_
      refine gg_st (go_iload 6 d_X11_takeStep_82 rfl rfl) ?_
      refine gv_I (k_X4_kindOf l w (show 77 ∈ st39_43_47_51_77 by decide) x7 σ) cv_X11_175 sC_77 (Nat.le_of_ble_eq_true rfl) rfl rfl (Nat.le_of_ble_eq_true rfl) d_X11_takeStep_84 rfl (fun x9 => ?_)
      refine gv_V (k_X2_noteStep l w x8 x9 σ) cv_X11_249 sC_36 (Nat.le_of_ble_eq_true rfl) rfl rfl (Nat.le_of_ble_eq_true rfl) d_X11_takeStep_87 rfl (fun s10 => ?_)
      refine gg_st (go_aload_n 0 d_X11_takeStep_90 rfl rfl rfl) ?_
      refine gg_st (go_getR (j := 1) cf11 sC_0 rfl (by decide) fl_X11_19 d_X11_takeStep_91 rfl) ?_
      refine gg_st (go_aload_n 0 d_X11_takeStep_94 rfl rfl rfl) ?_
      refine gg_st (go_getR (j := 8) cf11 sC_0 rfl (by decide) fl_X11_61 d_X11_takeStep_95 rfl) ?_
      refine gg_st (go_iload_n 3 d_X11_takeStep_98 rfl rfl rfl) ?_
      refine gg_st (go_iload 5 d_X11_takeStep_99 rfl rfl) ?_
      refine gg_st (go_iload 6 d_X11_takeStep_101 rfl rfl) ?_
      refine gv_V (k_X7_rewrite l w F x1 x6 x7 s10) cv_X11_253 sC_31 (Nat.le_of_ble_eq_true rfl) rfl rfl (Nat.le_of_ble_eq_true rfl) d_X11_takeStep_103 rfl (fun s11 => ?_)
      refine gg_st (go_aload_n 0 d_X11_takeStep_106 rfl rfl rfl) ?_
      refine gg_st (go_getR (j := 2) cf11 sC_0 rfl (by decide) fl_X11_26 d_X11_takeStep_107 rfl) ?_
      refine gg_st (go_aload_n 2 d_X11_takeStep_110 rfl rfl rfl) ?_
      refine gg_st (go_getI (j := 3) cf4 sC_77 rfl (by decide) fl_X11_96 d_X11_takeStep_111 rfl) ?_
      refine gv_V (k_X2_noteAgents l w (s11.1 (77) 3) s11) cv_X11_257 sC_36 (Nat.le_of_ble_eq_true rfl) rfl rfl (Nat.le_of_ble_eq_true rfl) d_X11_takeStep_114 rfl (fun s12 => ?_)
      refine gg_st (go_iconst d_X11_takeStep_117 ci_1 rfl) ?_
      exact gg_zret (Or.inr rfl) rfl d_X11_takeStep_118 rfl
