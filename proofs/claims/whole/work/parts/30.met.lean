def f_X11_runRounds_L52 (F : Nat) (c1 : Int32) (c3 : Int32) (c4 : Int32) (k0 : Int32 × St → Option (Int32 × St)) (k1 : Int32 × St → Option (Int32 × St)) : Nat → Int32 → Int32 → St → Option (Int32 × St)
  | 0, _, _, _ => none
  | n + 1, v7, v8, g =>
    if (v8 < c4) ∧ ((v8 < (400 : Int32)) ∧ (v7 < c1)) then (
      if inb v8 400 then (
        Option.bind (f_X11_takeStep F (g.1 (55) (ix v8)) g) fun x11 =>
        if x11.1 = 0 then (
          k1 (v7, x11.2))
        else (
          Option.bind (some (v7 + (1 : Int32))) fun x13 =>
          f_X11_runRounds_L52 F c1 c3 c4 k0 k1 n x13 (v8 + (1 : Int32)) x11.2))
      else none)
    else (
      k0 (v7, g))
def f_X11_runRounds_L4 (F : Nat) (c1 : Int32) (k0 : Int32 × St → Option (Int32 × St)) : Nat → Int32 → Int32 → St → Option (Int32 × St)
  | 0, _, _, _ => none
  | n + 1, v1, v2, g =>
    if (v2 < (3000 : Int32)) ∧ (v1 < c1) then (
      Option.bind (f_X0_listAlivePairs F g) fun x3 =>
      if x3.1 = 0 then (
        some (v1, x3.2))
      else (
        Option.bind (some (seti x3.2 (36) 3 ((x3.2.1 (36) 3) + (1 : Int32)))) fun s6 =>
        f_X11_runRounds_L52 F c1 v2 x3.1
          (fun (t19 : Int32 × St) =>
            f_X11_runRounds_L4 F c1 k0 n t19.1 (v2 + (1 : Int32)) t19.2)
          (fun (t20 : Int32 × St) =>
            k0 (t20.1, t20.2)) F v1 (0 : Int32) s6))
    else (
      some (v1, g))
def f_X11_runRounds (F : Nat) (p1 : Int32) (σ : St) : Option (Int32 × St) :=
  f_X11_runRounds_L4 F p1
    (fun (t25 : Int32 × St) =>
      Option.bind (some (seti t25.2 (36) 4 (1 : Int32))) fun s26 =>
      some (t25.1, s26)) F (0 : Int32) (0 : Int32) σ
set_option maxRecDepth 20000 in
theorem g_f_X11_runRounds_L52 (l : Launch) (w : Wo) (F : Nat) (c1 : Int32) (c3 : Int32) (c4 : Int32) (k0 : Int32 × St → Option (Int32 × St)) (k1 : Int32 × St → Option (Int32 × St)) (hk0 : ∀ t, GG l w shC m_X11_runRounds 7 107 [some (.ref (0)), some (.int c1), some (.int t.1), some (.int c3), none, none] [] t.2 (k0 t) (fun q => .inr ((rIS) q))) (hk1 : ∀ t, GG l w shC m_X11_runRounds 7 88 [some (.ref (0)), none, some (.int t.1), none, none, none] [] t.2 (k1 t) (fun q => .inr ((rIS) q))) : ∀ (n : Nat) (v7 : Int32) (v8 : Int32) (g : St), GG l w shC m_X11_runRounds 7 52 [some (.ref (0)), some (.int c1), some (.int v7), some (.int c3), some (.int c4), some (.int v8)] [] g (f_X11_runRounds_L52 F c1 c3 c4 k0 k1 n v7 v8 g) (fun q => .inr ((rIS) q)) := by
  intro n
  induction n with
  | zero =>
    intro v7 v8 g
    exact gg_none
  | succ n ih =>
    intro v7 v8 g
    rw [f_X11_runRounds_L52]
    refine gg_st (go_iload 5 d_X11_runRounds_52 rfl rfl) ?_
    refine gg_st (go_iload 4 d_X11_runRounds_54 rfl rfl) ?_
    refine gg_two (c := (v8 < c4) ∧ ((v8 < (400 : Int32)) ∧ (v7 < c1))) (pA := 74) (pB := 107) (LL := [some (.ref (0)), some (.int c1), some (.int v7), some (.int c3), some (.int c4), some (.int v8)]) (ss := []) ?_ ?_ (fun hA14 hB15 => ?_)
    · refine gg_st (go_aload_n 0 d_X11_runRounds_74 rfl rfl rfl) ?_
      refine gg_st (go_aload_n 0 d_X11_runRounds_75 rfl rfl rfl) ?_
      refine gg_st (go_getR (j := 4) cf11 sC_0 rfl (by decide) fl_X11_37 d_X11_runRounds_76 rfl) ?_
      refine gg_st (go_iload 5 d_X11_runRounds_79 rfl rfl) ?_
      refine gg_gd (fun h10 => ?_)
      refine gg_st (go_iald sC_55 h10 d_X11_runRounds_81 rfl) ?_
      refine gv_IS (k_X11_takeStep l w F (g.1 (55) (ix v8)) g) cv_X11_196 sC_0 (Nat.le_of_ble_eq_true rfl) rfl rfl (Nat.le_of_ble_eq_true rfl) d_X11_runRounds_82 rfl (fun x11 => ?_)
      refine gg_br (br_if_ne (tgt := 98) (pc' := 88) d_X11_runRounds_85 (by decide) rfl) (fun h12 => ?_) (fun h12 => ?_)
      · refine gg_st (go_fg [some (.ref (0)), none, some (.int v7), none, none, none] ⟨rfl, ⟨rfl, trivial⟩⟩) ?_
        exact hk1 (v7, x11.2)
      · refine gg_st (go_iinc 2 d_X11_runRounds_98 rfl (v := v7 + (1 : Int32)) (by rw [ci_1]) (by decide) (L' := [some (.ref (0)), some (.int c1), some (.int (v7 + (1 : Int32))), some (.int c3), some (.int c4), some (.int v8)]) rfl rfl) ?_
        refine gg_nm (fun (x13 : Int32) => [some (.ref (0)), some (.int c1), some (.int x13), some (.int c3), some (.int c4), some (.int v8)]) (fun _ => []) (fun x13 => ?_)
        refine gg_st (go_iinc 5 d_X11_runRounds_101 rfl (v := v8 + (1 : Int32)) (by rw [ci_1]) (by decide) (L' := [some (.ref (0)), some (.int c1), some (.int x13), some (.int c3), some (.int c4), some (.int (v8 + (1 : Int32)))]) rfl rfl) ?_
        refine gg_st (go_goto (pc' := 52) d_X11_runRounds_104 (by decide)) ?_
        exact ih x13 (v8 + (1 : Int32)) x11.2
    · refine gg_st (go_fg [some (.ref (0)), some (.int c1), some (.int v7), some (.int c3), none, none] ⟨rfl, ⟨rfl, ⟨rfl, ⟨rfl, trivial⟩⟩⟩⟩) ?_
      exact hk0 (v7, g)
    refine gg_brs (br_icmp_ge (tgt := 107) (pc' := 59) d_X11_runRounds_56 (by decide) rfl) (fun h16 => ?_) (fun h16 => ?_)
    · refine gg_st (go_iload 5 d_X11_runRounds_59 rfl rfl) ?_
      refine gg_st (go_aload_n 0 d_X11_runRounds_61 rfl rfl rfl) ?_
      refine gg_st (go_getR (j := 4) cf11 sC_0 rfl (by decide) fl_X11_37 d_X11_runRounds_62 rfl) ?_
      refine gg_st (go_alen sC_55 (v := (400 : Int32)) (by decide) d_X11_runRounds_65 rfl) ?_
      refine gg_brs (br_icmp_ge (tgt := 107) (pc' := 69) d_X11_runRounds_66 (by decide) rfl) (fun h17 => ?_) (fun h17 => ?_)
      · refine gg_st (go_iload_n 2 d_X11_runRounds_69 rfl rfl rfl) ?_
        refine gg_st (go_iload_n 1 d_X11_runRounds_70 rfl rfl rfl) ?_
        refine gg_brs (br_icmp_ge (tgt := 107) (pc' := 74) d_X11_runRounds_71 (by decide) rfl) (fun h18 => ?_) (fun h18 => ?_)
        · exact gg_eq (if_pos ⟨h16, ⟨h17, h18⟩⟩) hA14
        · exact gg_eq (if_neg (fun z => (fun z => h18 z.2) z.2)) hB15
      · exact gg_eq (if_neg (fun z => (fun z => h17 z.1) z.2)) hB15
    · exact gg_eq (if_neg (fun z => h16 z.1)) hB15
set_option maxRecDepth 20000 in
theorem g_f_X11_runRounds_L4 (l : Launch) (w : Wo) (F : Nat) (c1 : Int32) (k0 : Int32 × St → Option (Int32 × St)) (hk0 : ∀ t, GG l w shC m_X11_runRounds 7 88 [some (.ref (0)), none, some (.int t.1), none, none, none] [] t.2 (k0 t) (fun q => .inr ((rIS) q))) : ∀ (n : Nat) (v1 : Int32) (v2 : Int32) (g : St), GG l w shC m_X11_runRounds 7 4 [some (.ref (0)), some (.int c1), some (.int v1), some (.int v2), none, none] [] g (f_X11_runRounds_L4 F c1 k0 n v1 v2 g) (fun q => .inr ((rIS) q)) := by
  intro n
  induction n with
  | zero =>
    intro v1 v2 g
    exact gg_none
  | succ n ih =>
    intro v1 v2 g
    rw [f_X11_runRounds_L4]
    refine gg_st (go_iload_n 3 d_X11_runRounds_4 rfl rfl rfl) ?_
    refine gg_st (go_sipush d_X11_runRounds_5 cs_3000 rfl) ?_
    refine gg_two (c := (v2 < (3000 : Int32)) ∧ (v1 < c1)) (pA := 16) (pB := 113) (LL := [some (.ref (0)), some (.int c1), some (.int v1), some (.int v2), none, none]) (ss := []) ?_ ?_ (fun hA21 hB22 => ?_)
    · refine gg_st (go_aload_n 0 d_X11_runRounds_16 rfl rfl rfl) ?_
      refine gg_st (go_getR (j := 8) cf11 sC_0 rfl (by decide) fl_X11_61 d_X11_runRounds_17 rfl) ?_
      refine gg_st (go_aload_n 0 d_X11_runRounds_20 rfl rfl rfl) ?_
      refine gg_st (go_getR (j := 4) cf11 sC_0 rfl (by decide) fl_X11_37 d_X11_runRounds_21 rfl) ?_
      refine gv_IS (k_X0_listAlivePairs l w F  g) cv_X11_270 sC_64 (Nat.le_of_ble_eq_true rfl) rfl rfl (Nat.le_of_ble_eq_true rfl) d_X11_runRounds_24 rfl (fun x3 => ?_)
      refine gg_st (go_istore 4 d_X11_runRounds_27 (by decide) (L' := [some (.ref (0)), some (.int c1), some (.int v1), some (.int v2), some (.int x3.1), none]) rfl rfl) ?_
      refine gg_st (go_iload 4 d_X11_runRounds_29 rfl rfl) ?_
      refine gg_br (br_if_ne (tgt := 36) (pc' := 34) d_X11_runRounds_31 (by decide) rfl) (fun h5 => ?_) (fun h5 => ?_)
      · refine gg_st (go_iload_n 2 d_X11_runRounds_34 rfl rfl rfl) ?_
        exact gg_iret rfl d_X11_runRounds_35 rfl
      · refine gg_st (go_aload_n 0 d_X11_runRounds_36 rfl rfl rfl) ?_
        refine gg_st (go_getR (j := 2) cf11 sC_0 rfl (by decide) fl_X11_26 d_X11_runRounds_37 rfl) ?_
        refine gg_st (go_dup d_X11_runRounds_40 rfl rfl) ?_
        refine gg_st (go_getI (j := 3) cf2 sC_36 rfl (by decide) fl_X11_142 d_X11_runRounds_41 rfl) ?_
        refine gg_st (go_iconst d_X11_runRounds_44 ci_1 rfl) ?_
        refine gg_st (go_iadd d_X11_runRounds_45 rfl) ?_
        refine gg_st (go_putI (j := 3) cf2 sC_36 rfl (by decide) rfl rfl fl_X11_142 d_X11_runRounds_46 rfl) ?_
        refine gg_som (fun s6 => ?_)
        refine gg_st (go_iconst d_X11_runRounds_49 ci_0 rfl) ?_
        refine gg_st (go_istore 5 d_X11_runRounds_50 (by decide) (L' := [some (.ref (0)), some (.int c1), some (.int v1), some (.int v2), some (.int x3.1), some (.int (0 : Int32))]) rfl rfl) ?_
        refine g_f_X11_runRounds_L52 l w F c1 v2 x3.1 _ _ (fun t19 => ?_) (fun t20 => ?_) F v1 (0 : Int32) s6
        · refine gg_st (go_iinc 3 d_X11_runRounds_107 rfl (v := v2 + (1 : Int32)) (by rw [ci_1]) (by decide) (L' := [some (.ref (0)), some (.int c1), some (.int t19.1), some (.int (v2 + (1 : Int32))), none, none]) rfl rfl) ?_
          refine gg_st (go_goto (pc' := 4) d_X11_runRounds_110 (by decide)) ?_
          exact ih t19.1 (v2 + (1 : Int32)) t19.2
        · exact hk0 (t20.1, t20.2)
    · refine gg_st (go_iload_n 2 d_X11_runRounds_113 rfl rfl rfl) ?_
      exact gg_iret rfl d_X11_runRounds_114 rfl
    refine gg_brs (br_icmp_ge (tgt := 113) (pc' := 11) d_X11_runRounds_8 (by decide) rfl) (fun h23 => ?_) (fun h23 => ?_)
    · refine gg_st (go_iload_n 2 d_X11_runRounds_11 rfl rfl rfl) ?_
      refine gg_st (go_iload_n 1 d_X11_runRounds_12 rfl rfl rfl) ?_
      refine gg_brs (br_icmp_ge (tgt := 113) (pc' := 16) d_X11_runRounds_13 (by decide) rfl) (fun h24 => ?_) (fun h24 => ?_)
      · exact gg_eq (if_pos ⟨h23, h24⟩) hA21
      · exact gg_eq (if_neg (fun z => h24 z.2)) hB22
    · exact gg_eq (if_neg (fun z => h23 z.1)) hB22
set_option maxRecDepth 20000 in
theorem k_X11_runRounds (l : Launch) (w : Wo) (F : Nat) (p1 : Int32) (σ : St) : K l w shC m_X11_runRounds 7 [.ref (0), .int p1] σ (f_X11_runRounds F p1 σ) (rIS) := by
  refine k_of (L := [some (.ref (0)), some (.int p1), none, none, none, none]) (plainFor_of_name (by decide +kernel)) 4 rfl (Nat.le_of_ble_eq_true rfl) ?_
  unfold f_X11_runRounds
  refine gg_st (go_iconst d_X11_runRounds_0 ci_0 rfl) ?_
  refine gg_st (go_istore_n 2 d_X11_runRounds_1 rfl (by decide) (L' := [some (.ref (0)), some (.int p1), some (.int (0 : Int32)), none, none, none]) rfl rfl) ?_
  refine gg_st (go_iconst d_X11_runRounds_2 ci_0 rfl) ?_
  refine gg_st (go_istore_n 3 d_X11_runRounds_3 rfl (by decide) (L' := [some (.ref (0)), some (.int p1), some (.int (0 : Int32)), some (.int (0 : Int32)), none, none]) rfl rfl) ?_
  refine g_f_X11_runRounds_L4 l w F p1 _ (fun t25 => ?_) F (0 : Int32) (0 : Int32) σ
  refine gg_st (go_aload_n 0 d_X11_runRounds_88 rfl rfl rfl) ?_
  refine gg_st (go_getR (j := 2) cf11 sC_0 rfl (by decide) fl_X11_26 d_X11_runRounds_89 rfl) ?_
  refine gg_st (go_iconst d_X11_runRounds_92 ci_1 rfl) ?_
  refine gg_st (go_putZ (Or.inr rfl) (j := 4) cf2 sC_36 rfl (by decide) rfl rfl fl_X11_145 d_X11_runRounds_93 rfl) ?_
  refine gg_som (fun s26 => ?_)
  refine gg_st (go_iload_n 2 d_X11_runRounds_96 rfl rfl rfl) ?_
  exact gg_iret rfl d_X11_runRounds_97 rfl
def f_X11_runSingly_L2 (F : Nat) (c1 : Int32) (c2 : Int32) (k0 : Int32 × St → Option (Int32 × St)) : Nat → Int32 → St → Option (Int32 × St)
  | 0, _, _ => none
  | n + 1, v1, g =>
    if v1 < c2 then (
      Option.bind (f_X11_choosePair F c1 g) fun x3 =>
      if x3.1 = (-1 : Int32) then (
        some (v1, x3.2))
      else (
        Option.bind (f_X11_takeStep F x3.1 x3.2) fun x5 =>
        if x5.1 = 0 then (
          k0 (v1, x5.2))
        else (
          f_X11_runSingly_L2 F c1 c2 k0 n (v1 + (1 : Int32)) x5.2)))
    else (
      some (c2, g))
def f_X11_runSingly (F : Nat) (p1 : Int32) (p2 : Int32) (σ : St) : Option (Int32 × St) :=
  f_X11_runSingly_L2 F p1 p2
    (fun (t7 : Int32 × St) =>
      Option.bind (some (seti t7.2 (36) 4 (1 : Int32))) fun s8 =>
      some (t7.1, s8)) F (0 : Int32) σ
set_option maxRecDepth 20000 in
theorem g_f_X11_runSingly_L2 (l : Launch) (w : Wo) (F : Nat) (c1 : Int32) (c2 : Int32) (k0 : Int32 × St → Option (Int32 × St)) (hk0 : ∀ t, GG l w shC m_X11_runSingly 7 31 [some (.ref (0)), none, none, some (.int t.1), none] [] t.2 (k0 t) (fun q => .inr ((rIS) q))) : ∀ (n : Nat) (v1 : Int32) (g : St), GG l w shC m_X11_runSingly 7 2 [some (.ref (0)), some (.int c1), some (.int c2), some (.int v1), none] [] g (f_X11_runSingly_L2 F c1 c2 k0 n v1 g) (fun q => .inr ((rIS) q)) := by
  intro n
  induction n with
  | zero =>
    intro v1 g
    exact gg_none
  | succ n ih =>
    intro v1 g
    rw [f_X11_runSingly_L2]
    refine gg_st (go_iload_n 3 d_X11_runSingly_2 rfl rfl rfl) ?_
    refine gg_st (go_iload_n 2 d_X11_runSingly_3 rfl rfl rfl) ?_
    refine gg_br (br_icmp_ge (tgt := 47) (pc' := 7) d_X11_runSingly_4 (by decide) rfl) (fun h2 => ?_) (fun h2 => ?_)
    · refine gg_st (go_aload_n 0 d_X11_runSingly_7 rfl rfl rfl) ?_
      refine gg_st (go_iload_n 1 d_X11_runSingly_8 rfl rfl rfl) ?_
      refine gv_IS (k_X11_choosePair l w F c1 g) cv_X11_260 sC_0 (Nat.le_of_ble_eq_true rfl) rfl rfl (Nat.le_of_ble_eq_true rfl) d_X11_runSingly_9 rfl (fun x3 => ?_)
      refine gg_st (go_istore 4 d_X11_runSingly_12 (by decide) (L' := [some (.ref (0)), some (.int c1), some (.int c2), some (.int v1), some (.int x3.1)]) rfl rfl) ?_
      refine gg_st (go_iload 4 d_X11_runSingly_14 rfl rfl) ?_
      refine gg_st (go_iconst d_X11_runSingly_16 ci_m1 rfl) ?_
      refine gg_br (br_icmp_ne (tgt := 22) (pc' := 20) d_X11_runSingly_17 (by decide) rfl) (fun h4 => ?_) (fun h4 => ?_)
      · refine gg_st (go_iload_n 3 d_X11_runSingly_20 rfl rfl rfl) ?_
        exact gg_iret rfl d_X11_runSingly_21 rfl
      · refine gg_st (go_aload_n 0 d_X11_runSingly_22 rfl rfl rfl) ?_
        refine gg_st (go_iload 4 d_X11_runSingly_23 rfl rfl) ?_
        refine gv_IS (k_X11_takeStep l w F x3.1 x3.2) cv_X11_196 sC_0 (Nat.le_of_ble_eq_true rfl) rfl rfl (Nat.le_of_ble_eq_true rfl) d_X11_runSingly_25 rfl (fun x5 => ?_)
        refine gg_br (br_if_ne (tgt := 41) (pc' := 31) d_X11_runSingly_28 (by decide) rfl) (fun h6 => ?_) (fun h6 => ?_)
        · refine gg_st (go_fg [some (.ref (0)), none, none, some (.int v1), none] ⟨rfl, ⟨rfl, trivial⟩⟩) ?_
          exact hk0 (v1, x5.2)
        · refine gg_st (go_iinc 3 d_X11_runSingly_41 rfl (v := v1 + (1 : Int32)) (by rw [ci_1]) (by decide) (L' := [some (.ref (0)), some (.int c1), some (.int c2), some (.int (v1 + (1 : Int32))), some (.int x3.1)]) rfl rfl) ?_
          refine gg_st (go_goto (pc' := 2) d_X11_runSingly_44 (by decide)) ?_
          refine gg_st (go_fg [some (.ref (0)), some (.int c1), some (.int c2), some (.int (v1 + (1 : Int32))), none] ⟨rfl, ⟨rfl, ⟨rfl, ⟨rfl, trivial⟩⟩⟩⟩) ?_
          exact ih (v1 + (1 : Int32)) x5.2
    · refine gg_st (go_iload_n 2 d_X11_runSingly_47 rfl rfl rfl) ?_
      exact gg_iret rfl d_X11_runSingly_48 rfl
set_option maxRecDepth 20000 in
theorem k_X11_runSingly (l : Launch) (w : Wo) (F : Nat) (p1 : Int32) (p2 : Int32) (σ : St) : K l w shC m_X11_runSingly 7 [.ref (0), .int p1, .int p2] σ (f_X11_runSingly F p1 p2 σ) (rIS) := by
  refine k_of (L := [some (.ref (0)), some (.int p1), some (.int p2), none, none]) (plainFor_of_name (by decide +kernel)) 2 rfl (Nat.le_of_ble_eq_true rfl) ?_
  unfold f_X11_runSingly
  refine gg_st (go_iconst d_X11_runSingly_0 ci_0 rfl) ?_
  refine gg_st (go_istore_n 3 d_X11_runSingly_1 rfl (by decide) (L' := [some (.ref (0)), some (.int p1), some (.int p2), some (.int (0 : Int32)), none]) rfl rfl) ?_
  refine g_f_X11_runSingly_L2 l w F p1 p2 _ (fun t7 => ?_) F (0 : Int32) σ
  refine gg_st (go_aload_n 0 d_X11_runSingly_31 rfl rfl rfl) ?_
  refine gg_st (go_getR (j := 2) cf11 sC_0 rfl (by decide) fl_X11_26 d_X11_runSingly_32 rfl) ?_
  refine gg_st (go_iconst d_X11_runSingly_35 ci_1 rfl) ?_
  refine gg_st (go_putZ (Or.inr rfl) (j := 4) cf2 sC_36 rfl (by decide) rfl rfl fl_X11_145 d_X11_runSingly_36 rfl) ?_
  refine gg_som (fun s8 => ?_)
  refine gg_st (go_iload_n 3 d_X11_runSingly_39 rfl rfl rfl) ?_
  exact gg_iret rfl d_X11_runSingly_40 rfl
def f_X11_run (F : Nat) (p1 : Int32) (p2 : Int32) (σ : St) : Option (Int32 × St) :=
  if (0 ≤ p1) ∧ ((p1 ≤ (3 : Int32)) ∧ ((0 ≤ p2) ∧ (¬ ((3000 : Int32) < p2)))) then (
    Option.bind (some (seti σ (36) 4 (0 : Int32))) fun s2 =>
    if p1 = (2 : Int32) then (
      Option.bind (f_X11_runRounds F p2 s2) fun x4 =>
      some (x4.1, x4.2))
    else (
      Option.bind (f_X11_runSingly F p1 p2 s2) fun x5 =>
      some (x5.1, x5.2)))
  else (
    some ((-1002 : Int32), σ))
set_option maxRecDepth 20000 in
theorem k_X11_run (l : Launch) (w : Wo) (F : Nat) (p1 : Int32) (p2 : Int32) (σ : St) : K l w shC m_X11_run 8 [.ref (0), .int p1, .int p2] σ (f_X11_run F p1 p2 σ) (rIS) := by
  refine k_of (L := [some (.ref (0)), some (.int p1), some (.int p2)]) (plainFor_of_name (by decide +kernel)) 0 rfl (Nat.le_of_ble_eq_true rfl) ?_
  unfold f_X11_run
  refine gg_st (go_iload_n 1 d_X11_run_0 rfl rfl rfl) ?_
  refine gg_two (c := (0 ≤ p1) ∧ ((p1 ≤ (3 : Int32)) ∧ ((0 ≤ p2) ∧ (¬ ((3000 : Int32) < p2))))) (pA := 24) (pB := 20) (LL := [some (.ref (0)), some (.int p1), some (.int p2)]) (ss := []) ?_ ?_ (fun hA6 hB7 => ?_)
  · refine gg_st (go_aload_n 0 d_X11_run_24 rfl rfl rfl) ?_
    refine gg_st (go_getR (j := 2) cf11 sC_0 rfl (by decide) fl_X11_26 d_X11_run_25 rfl) ?_
    refine gg_st (go_iconst d_X11_run_28 ci_0 rfl) ?_
    refine gg_st (go_putZ (Or.inl rfl) (j := 4) cf2 sC_36 rfl (by decide) rfl rfl fl_X11_145 d_X11_run_29 rfl) ?_
    refine gg_som (fun s2 => ?_)
    refine gg_st (go_iload_n 1 d_X11_run_32 rfl rfl rfl) ?_
    refine gg_st (go_iconst d_X11_run_33 ci_2 rfl) ?_
    refine gg_br (br_icmp_ne (tgt := 45) (pc' := 37) d_X11_run_34 (by decide) rfl) (fun h3 => ?_) (fun h3 => ?_)
    · refine gg_st (go_aload_n 0 d_X11_run_37 rfl rfl rfl) ?_
      refine gg_st (go_iload_n 2 d_X11_run_38 rfl rfl rfl) ?_
      refine gv_IS (k_X11_runRounds l w F p2 s2) cv_X11_199 sC_0 (Nat.le_of_ble_eq_true rfl) rfl rfl (Nat.le_of_ble_eq_true rfl) d_X11_run_39 rfl (fun x4 => ?_)
      refine gg_st (go_goto (pc' := 51) d_X11_run_42 (by decide)) ?_
      exact gg_iret rfl d_X11_run_51 rfl
    · refine gg_st (go_aload_n 0 d_X11_run_45 rfl rfl rfl) ?_
      refine gg_st (go_iload_n 1 d_X11_run_46 rfl rfl rfl) ?_
      refine gg_st (go_iload_n 2 d_X11_run_47 rfl rfl rfl) ?_
      refine gv_IS (k_X11_runSingly l w F p1 p2 s2) cv_X11_202 sC_0 (Nat.le_of_ble_eq_true rfl) rfl rfl (Nat.le_of_ble_eq_true rfl) d_X11_run_48 rfl (fun x5 => ?_)
      exact gg_iret rfl d_X11_run_51 rfl
  · refine gg_st (go_sipush d_X11_run_20 cs_m1002 rfl) ?_
    exact gg_iret rfl d_X11_run_23 rfl
  refine gg_brs (br_if_lt (tgt := 20) (pc' := 4) d_X11_run_1 (by decide) rfl) (fun h8 => ?_) (fun h8 => ?_)
  · refine gg_st (go_iload_n 1 d_X11_run_4 rfl rfl rfl) ?_
    refine gg_st (go_iconst d_X11_run_5 ci_3 rfl) ?_
    refine gg_brs (br_icmp_gt (tgt := 20) (pc' := 9) d_X11_run_6 (by decide) rfl) (fun h9 => ?_) (fun h9 => ?_)
    · refine gg_st (go_iload_n 2 d_X11_run_9 rfl rfl rfl) ?_
      refine gg_brs (br_if_lt (tgt := 20) (pc' := 13) d_X11_run_10 (by decide) rfl) (fun h10 => ?_) (fun h10 => ?_)
      · refine gg_st (go_iload_n 2 d_X11_run_13 rfl rfl rfl) ?_
        refine gg_st (go_sipush d_X11_run_14 cs_3000 rfl) ?_
        refine gg_brs (br_icmp_le (tgt := 24) (pc' := 20) d_X11_run_17 (by decide) rfl) (fun h11 => ?_) (fun h11 => ?_)
        · exact gg_eq (if_neg (fun z => (fun z => (fun z => (fun z => z h11) z.2) z.2) z.2)) hB7
        · exact gg_eq (if_pos ⟨h8, ⟨h9, ⟨h10, h11⟩⟩⟩) hA6
      · exact gg_eq (if_neg (fun z => (fun z => (fun z => h10 z.1) z.2) z.2)) hB7
    · exact gg_eq (if_neg (fun z => (fun z => h9 z.1) z.2)) hB7
  · exact gg_eq (if_neg (fun z => h8 z.1)) hB7
def f_X11_step (F : Nat) (p1 : Int32) (σ : St) : Option (Int32 × St) :=
  Option.bind (f_X4_has p1 σ) fun x1 =>
  if x1 = 0 then (
    some ((-1001 : Int32), σ))
  else (
    Option.bind (f_X0_aliveRule p1 σ) fun x3 =>
    if x3 = (-1 : Int32) then (
      some ((-1003 : Int32), σ))
    else (
      Option.bind (f_X11_takeStep F p1 σ) fun x5 =>
      if x5.1 = 0 then (
        some ((0 : Int32), x5.2))
      else (
        some ((1 : Int32), x5.2))))
set_option maxRecDepth 20000 in
theorem k_X11_step (l : Launch) (w : Wo) (F : Nat) (p1 : Int32) (σ : St) : K l w shC m_X11_step 7 [.ref (0), .int p1] σ (f_X11_step F p1 σ) (rIS) := by
  refine k_of (L := [some (.ref (0)), some (.int p1)]) (plainFor_of_name (by decide +kernel)) 0 rfl (Nat.le_of_ble_eq_true rfl) ?_
  unfold f_X11_step
  refine gg_st (go_aload_n 0 d_X11_step_0 rfl rfl rfl) ?_
  refine gg_st (go_getR (j := 8) cf11 sC_0 rfl (by decide) fl_X11_61 d_X11_step_1 rfl) ?_
  refine gg_st (go_getR (j := 2) cf0 sC_64 rfl (by decide) fl_X11_92 d_X11_step_4 rfl) ?_
  refine gg_st (go_iload_n 1 d_X11_step_7 rfl rfl rfl) ?_
  refine gv_I (k_X4_has l w p1 σ) cv_X11_174 sC_77 (Nat.le_of_ble_eq_true rfl) rfl rfl (Nat.le_of_ble_eq_true rfl) d_X11_step_8 rfl (fun x1 => ?_)
  refine gg_br (br_if_ne (tgt := 18) (pc' := 14) d_X11_step_11 (by decide) rfl) (fun h2 => ?_) (fun h2 => ?_)
  · refine gg_st (go_sipush d_X11_step_14 cs_m1001 rfl) ?_
    exact gg_iret rfl d_X11_step_17 rfl
  · refine gg_st (go_aload_n 0 d_X11_step_18 rfl rfl rfl) ?_
    refine gg_st (go_getR (j := 8) cf11 sC_0 rfl (by decide) fl_X11_61 d_X11_step_19 rfl) ?_
    refine gg_st (go_iload_n 1 d_X11_step_22 rfl rfl rfl) ?_
    refine gv_I (k_X0_aliveRule l w p1 σ) cv_X11_193 sC_64 (Nat.le_of_ble_eq_true rfl) rfl rfl (Nat.le_of_ble_eq_true rfl) d_X11_step_23 rfl (fun x3 => ?_)
    refine gg_st (go_iconst d_X11_step_26 ci_m1 rfl) ?_
    refine gg_br (br_icmp_ne (tgt := 34) (pc' := 30) d_X11_step_27 (by decide) rfl) (fun h4 => ?_) (fun h4 => ?_)
    · refine gg_st (go_sipush d_X11_step_30 cs_m1003 rfl) ?_
      exact gg_iret rfl d_X11_step_33 rfl
    · refine gg_st (go_aload_n 0 d_X11_step_34 rfl rfl rfl) ?_
      refine gg_st (go_iload_n 1 d_X11_step_35 rfl rfl rfl) ?_
      refine gv_IS (k_X11_takeStep l w F p1 σ) cv_X11_196 sC_0 (Nat.le_of_ble_eq_true rfl) rfl rfl (Nat.le_of_ble_eq_true rfl) d_X11_step_36 rfl (fun x5 => ?_)
      refine gg_br (br_if_eq (tgt := 46) (pc' := 42) d_X11_step_39 (by decide) rfl) (fun h6 => ?_) (fun h6 => ?_)
      · refine gg_st (go_iconst d_X11_step_46 ci_0 rfl) ?_
        exact gg_iret rfl d_X11_step_47 rfl
      · refine gg_st (go_iconst d_X11_step_42 ci_1 rfl) ?_
        refine gg_st (go_goto (pc' := 47) d_X11_step_43 (by decide)) ?_
        exact gg_iret rfl d_X11_step_47 rfl
def f_X2_recentStep (p1 : Int32) (σ : St) : Option (Int32) :=
  Option.bind (some (f_J9_min_7cf53 (σ.1 (36) 1) (50 : Int32))) fun x1 =>
  Option.bind (some (f_X11_isInside p1 x1)) fun x2 =>
  if x2 = 0 then (
    some (-1 : Int32))
  else (
    Option.bind (f_J9_floorMod_7cf53 (((σ.1 (36) 1) - (1 : Int32)) - p1) (50 : Int32)) fun x4 =>
    if inb x4 50 then (
      some (σ.1 (37) (ix x4)))
    else none)
set_option maxRecDepth 20000 in
theorem k_X2_recentStep (l : Launch) (w : Wo) (p1 : Int32) (σ : St) : K l w shC m_X2_recentStep 2 [.ref (36), .int p1] σ (f_X2_recentStep p1 σ) (rI σ) := by
  refine k_of (L := [some (.ref (36)), some (.int p1)]) (plainFor_of_name (by decide +kernel)) 0 rfl (Nat.le_of_ble_eq_true rfl) ?_
  unfold f_X2_recentStep
  refine gg_st (go_iload_n 1 d_X2_recentStep_0 rfl rfl rfl) ?_
  refine gg_st (go_aload_n 0 d_X2_recentStep_1 rfl rfl rfl) ?_
  refine gg_st (go_getI (j := 1) cf2 sC_36 rfl (by decide) fl_X2_15 d_X2_recentStep_2 rfl) ?_
  refine gg_st (go_bipush d_X2_recentStep_5 cb_50 rfl) ?_
  refine gs_I (k_J9_min_7cf53 l w (σ.1 (36) 1) (50 : Int32) σ) cs_X2_34 (Nat.le_of_ble_eq_true rfl) rfl rfl (Nat.le_of_ble_eq_true rfl) d_X2_recentStep_7 rfl (fun x1 => ?_)
  refine gs_I (k_X11_isInside l w p1 x1 σ) cs_X2_37 (Nat.le_of_ble_eq_true rfl) rfl rfl (Nat.le_of_ble_eq_true rfl) d_X2_recentStep_10 rfl (fun x2 => ?_)
  refine gg_br (br_if_eq (tgt := 37) (pc' := 16) d_X2_recentStep_13 (by decide) rfl) (fun h3 => ?_) (fun h3 => ?_)
  · refine gg_st (go_iconst d_X2_recentStep_37 ci_m1 rfl) ?_
    exact gg_iret rfl d_X2_recentStep_38 rfl
  · refine gg_st (go_aload_n 0 d_X2_recentStep_16 rfl rfl rfl) ?_
    refine gg_st (go_getR (j := 0) cf2 sC_36 rfl (by decide) fl_X2_11 d_X2_recentStep_17 rfl) ?_
    refine gg_st (go_aload_n 0 d_X2_recentStep_20 rfl rfl rfl) ?_
    refine gg_st (go_getI (j := 1) cf2 sC_36 rfl (by decide) fl_X2_15 d_X2_recentStep_21 rfl) ?_
    refine gg_st (go_iconst d_X2_recentStep_24 ci_1 rfl) ?_
    refine gg_st (go_isub d_X2_recentStep_25 rfl) ?_
    refine gg_st (go_iload_n 1 d_X2_recentStep_26 rfl rfl rfl) ?_
    refine gg_st (go_isub d_X2_recentStep_27 rfl) ?_
    refine gg_st (go_bipush d_X2_recentStep_28 cb_50 rfl) ?_
    refine gs_I (k_J9_floorMod_7cf53 l w (((σ.1 (36) 1) - (1 : Int32)) - p1) (50 : Int32) σ) cs_X2_25 (Nat.le_of_ble_eq_true rfl) rfl rfl (Nat.le_of_ble_eq_true rfl) d_X2_recentStep_30 rfl (fun x4 => ?_)
    refine gg_gd (fun h5 => ?_)
    refine gg_st (go_iald sC_37 h5 d_X2_recentStep_33 rfl) ?_
    refine gg_st (go_goto (pc' := 38) d_X2_recentStep_34 (by decide)) ?_
    exact gg_iret rfl d_X2_recentStep_38 rfl
def f_X11_trace (p1 : Int32) (σ : St) : Option (Int32) :=
  Option.bind (f_X2_recentStep p1 σ) fun x1 =>
  some x1
set_option maxRecDepth 20000 in
theorem k_X11_trace (l : Launch) (w : Wo) (p1 : Int32) (σ : St) : K l w shC m_X11_trace 3 [.ref (0), .int p1] σ (f_X11_trace p1 σ) (rI σ) := by
  refine k_of (L := [some (.ref (0)), some (.int p1)]) (plainFor_of_name (by decide +kernel)) 0 rfl (Nat.le_of_ble_eq_true rfl) ?_
  unfold f_X11_trace
  refine gg_st (go_aload_n 0 d_X11_trace_0 rfl rfl rfl) ?_
  refine gg_st (go_getR (j := 2) cf11 sC_0 rfl (by decide) fl_X11_26 d_X11_trace_1 rfl) ?_
  refine gg_st (go_iload_n 1 d_X11_trace_4 rfl rfl rfl) ?_
  refine gv_I (k_X2_recentStep l w p1 σ) cv_X11_205 sC_36 (Nat.le_of_ble_eq_true rfl) rfl rfl (Nat.le_of_ble_eq_true rfl) d_X11_trace_5 rfl (fun x1 => ?_)
  exact gg_iret rfl d_X11_trace_8 rfl
def f_X11_wired (p1 : Int32) (p2 : Int32) (σ : St) : Option (Int32) :=
  Option.bind (f_X4_has p1 σ) fun x1 =>
  if x1 = 0 then (
    some (-1001 : Int32))
  else (
    Option.bind (f_X4_kindOf (77) p1 σ) fun x3 =>
    Option.bind (f_X3_hasPort (65) x3 p2 σ) fun x4 =>
    if x4 = 0 then (
      some (-1002 : Int32))
    else (
      Option.bind (some (f_X11_portCode p1 p2)) fun x6 =>
      Option.bind (f_X4_wireOf (77) x6 σ) fun x7 =>
      some x7))
set_option maxRecDepth 20000 in
theorem k_X11_wired (l : Launch) (w : Wo) (p1 : Int32) (p2 : Int32) (σ : St) : K l w shC m_X11_wired 3 [.ref (0), .int p1, .int p2] σ (f_X11_wired p1 p2 σ) (rI σ) := by
  refine k_of (L := [some (.ref (0)), some (.int p1), some (.int p2)]) (plainFor_of_name (by decide +kernel)) 0 rfl (Nat.le_of_ble_eq_true rfl) ?_
  unfold f_X11_wired
  refine gg_st (go_aload_n 0 d_X11_wired_0 rfl rfl rfl) ?_
  refine gg_st (go_getR (j := 8) cf11 sC_0 rfl (by decide) fl_X11_61 d_X11_wired_1 rfl) ?_
  refine gg_st (go_getR (j := 2) cf0 sC_64 rfl (by decide) fl_X11_92 d_X11_wired_4 rfl) ?_
  refine gg_st (go_iload_n 1 d_X11_wired_7 rfl rfl rfl) ?_
  refine gv_I (k_X4_has l w p1 σ) cv_X11_174 sC_77 (Nat.le_of_ble_eq_true rfl) rfl rfl (Nat.le_of_ble_eq_true rfl) d_X11_wired_8 rfl (fun x1 => ?_)
  refine gg_br (br_if_ne (tgt := 18) (pc' := 14) d_X11_wired_11 (by decide) rfl) (fun h2 => ?_) (fun h2 => ?_)
  · refine gg_st (go_sipush d_X11_wired_14 cs_m1001 rfl) ?_
    exact gg_iret rfl d_X11_wired_17 rfl
  · refine gg_st (go_aload_n 0 d_X11_wired_18 rfl rfl rfl) ?_
    refine gg_st (go_getR (j := 8) cf11 sC_0 rfl (by decide) fl_X11_61 d_X11_wired_19 rfl) ?_
    refine gg_st (go_getR (j := 0) cf0 sC_64 rfl (by decide) fl_X11_108 d_X11_wired_22 rfl) ?_
    refine gg_st (go_aload_n 0 d_X11_wired_25 rfl rfl rfl) ?_
    refine gg_st (go_getR (j := 8) cf11 sC_0 rfl (by decide) fl_X11_61 d_X11_wired_26 rfl) ?_
    refine gg_st (go_getR (j := 2) cf0 sC_64 rfl (by decide) fl_X11_92 d_X11_wired_29 rfl) ?_
    refine gg_st (go_iload_n 1 d_X11_wired_32 rfl rfl rfl) ?_
    refine gv_I (k_X4_kindOf l w (show 77 ∈ st39_43_47_51_77 by decide) p1 σ) cv_X11_175 sC_77 (Nat.le_of_ble_eq_true rfl) rfl rfl (Nat.le_of_ble_eq_true rfl) d_X11_wired_33 rfl (fun x3 => ?_)
    refine gg_st (go_iload_n 2 d_X11_wired_36 rfl rfl rfl) ?_
    refine gv_I (k_X3_hasPort l w (show 65 ∈ st15_65 by decide) x3 p2 σ) cv_X11_160 sC_65 (Nat.le_of_ble_eq_true rfl) rfl rfl (Nat.le_of_ble_eq_true rfl) d_X11_wired_37 rfl (fun x4 => ?_)
    refine gg_br (br_if_ne (tgt := 47) (pc' := 43) d_X11_wired_40 (by decide) rfl) (fun h5 => ?_) (fun h5 => ?_)
    · refine gg_st (go_sipush d_X11_wired_43 cs_m1002 rfl) ?_
      exact gg_iret rfl d_X11_wired_46 rfl
    · refine gg_st (go_aload_n 0 d_X11_wired_47 rfl rfl rfl) ?_
      refine gg_st (go_getR (j := 8) cf11 sC_0 rfl (by decide) fl_X11_61 d_X11_wired_48 rfl) ?_
      refine gg_st (go_getR (j := 2) cf0 sC_64 rfl (by decide) fl_X11_92 d_X11_wired_51 rfl) ?_
      refine gg_st (go_iload_n 1 d_X11_wired_54 rfl rfl rfl) ?_
      refine gg_st (go_iload_n 2 d_X11_wired_55 rfl rfl rfl) ?_
      refine gs_I (k_X11_portCode l w p1 p2 σ) cs_X11_178 (Nat.le_of_ble_eq_true rfl) rfl rfl (Nat.le_of_ble_eq_true rfl) d_X11_wired_56 rfl (fun x6 => ?_)
      refine gv_I (k_X4_wireOf l w (show 77 ∈ st39_43_47_51_77 by decide) x6 σ) cv_X11_181 sC_77 (Nat.le_of_ble_eq_true rfl) rfl rfl (Nat.le_of_ble_eq_true rfl) d_X11_wired_59 rfl (fun x7 => ?_)
      exact gg_iret rfl d_X11_wired_62 rfl
def f_X12_in (p1 : Int64) (p2 : Int64) (p3 : Int64) : Int32 :=
  if (0 ≤ (lg_cmp p1 p2)) ∧ ((lg_cmp p1 p3) ≤ 0) then (
    (1 : Int32))
  else (
    (0 : Int32))
set_option maxRecDepth 20000 in
theorem k_X12_in (l : Launch) (w : Wo) (p1 : Int64) (p2 : Int64) (p3 : Int64) (σ : St) : K l w shM m_X12_in 1 [.long p1, .long p2, .long p3] σ (some (f_X12_in p1 p2 p3)) (rI σ) := by
  refine k_of (L := [some (.long p1), none, some (.long p2), none, some (.long p3), none]) (plainFor_of_name (by decide +kernel)) 0 rfl (Nat.le_of_ble_eq_true rfl) ?_
  unfold f_X12_in
  refine gg_st (go_lload_n 0 d_X12_in_0 rfl rfl rfl) ?_
  refine gg_st (go_lload_n 2 d_X12_in_1 rfl rfl rfl) ?_
  refine gg_st (go_lcmp d_X12_in_2 rfl) ?_
  refine gg_twov (c := (0 ≤ (lg_cmp p1 p2)) ∧ ((lg_cmp p1 p3) ≤ 0)) (pA := 13) (pB := 17) (LL := [some (.long p1), none, some (.long p2), none, some (.long p3), none]) (ss := []) ?_ ?_ (fun hA1 hB2 => ?_)
  · refine gg_st (go_iconst d_X12_in_13 ci_1 rfl) ?_
    refine gg_st (go_goto (pc' := 18) d_X12_in_14 (by decide)) ?_
    exact gg_zret (Or.inr rfl) rfl d_X12_in_18 rfl
  · refine gg_st (go_iconst d_X12_in_17 ci_0 rfl) ?_
    exact gg_zret (Or.inl rfl) rfl d_X12_in_18 rfl
  refine gg_brs (br_if_lt (tgt := 17) (pc' := 6) d_X12_in_3 (by decide) rfl) (fun h3 => ?_) (fun h3 => ?_)
  · refine gg_st (go_lload_n 0 d_X12_in_6 rfl rfl rfl) ?_
    refine gg_st (go_lload 4 d_X12_in_7 rfl rfl) ?_
    refine gg_st (go_lcmp d_X12_in_9 rfl) ?_
    refine gg_brs (br_if_gt (tgt := 17) (pc' := 13) d_X12_in_10 (by decide) rfl) (fun h4 => ?_) (fun h4 => ?_)
    · exact gg_eq (congrArg some (if_pos ⟨h3, h4⟩)) hA1
    · exact gg_eq (congrArg some (if_neg (fun z => h4 z.2))) hB2
  · exact gg_eq (congrArg some (if_neg (fun z => h3 z.1))) hB2
def f_X12_isAgent (p1 : Int32) (σ : St) : Option (Int32) :=
  Option.bind (some (f_X12_in (p1.toInt64) (0 : Int64) (399 : Int64))) fun x1 =>
  if x1 = 0 then (
    some (0 : Int32))
  else (
    if inb p1 400 then (
      if 0 ≤ (σ.1 (12) (ix p1)) then (
        some (1 : Int32))
      else (
        some (0 : Int32)))
    else none)
set_option maxRecDepth 20000 in
theorem k_X12_isAgent (l : Launch) (w : Wo) (p1 : Int32) (σ : St) : K l w shM m_X12_isAgent 2 [.ref (0), .int p1] σ (f_X12_isAgent p1 σ) (rI σ) := by
  refine k_of (L := [some (.ref (0)), some (.int p1)]) (plainFor_of_name (by decide +kernel)) 0 rfl (Nat.le_of_ble_eq_true rfl) ?_
  unfold f_X12_isAgent
  refine gg_st (go_iload_n 1 d_X12_isAgent_0 rfl rfl rfl) ?_
  refine gg_st (go_i2l d_X12_isAgent_1 rfl) ?_
  refine gg_st (go_lconst d_X12_isAgent_2 (v := (0 : Int64)) (by decide) rfl) ?_
  refine gg_st (go_ldc2 ll_X12_372 d_X12_isAgent_3 rfl) ?_
  refine gs_I (k_X12_in l w (p1.toInt64) (0 : Int64) (399 : Int64) σ) cs_X12_191 (Nat.le_of_ble_eq_true rfl) rfl rfl (Nat.le_of_ble_eq_true rfl) d_X12_isAgent_6 rfl (fun x1 => ?_)
  refine gg_br (br_if_eq (tgt := 25) (pc' := 12) d_X12_isAgent_9 (by decide) rfl) (fun h3 => ?_) (fun h3 => ?_)
  · refine gg_st (go_iconst d_X12_isAgent_25 ci_0 rfl) ?_
    exact gg_zret (Or.inl rfl) rfl d_X12_isAgent_26 rfl
  · refine gg_st (go_aload_n 0 d_X12_isAgent_12 rfl rfl rfl) ?_
    refine gg_st (go_getR (j := 15) cf12 sM_0 rfl (by decide) fl_X12_49 d_X12_isAgent_13 rfl) ?_
    refine gg_st (go_iload_n 1 d_X12_isAgent_16 rfl rfl rfl) ?_
    refine gg_gd (fun h4 => ?_)
    refine gg_st (go_iald sM_12 h4 d_X12_isAgent_17 rfl) ?_
    refine gg_br (br_if_lt (tgt := 25) (pc' := 21) d_X12_isAgent_18 (by decide) rfl) (fun h5 => ?_) (fun h5 => ?_)
    · refine gg_st (go_iconst d_X12_isAgent_21 ci_1 rfl) ?_
      refine gg_st (go_goto (pc' := 26) d_X12_isAgent_22 (by decide)) ?_
      exact gg_zret (Or.inr rfl) rfl d_X12_isAgent_26 rfl
    · refine gg_st (go_iconst d_X12_isAgent_25 ci_0 rfl) ?_
      exact gg_zret (Or.inl rfl) rfl d_X12_isAgent_26 rfl
def f_X12_agent (p1 : Int32) (σ : St) : Option (Int32) :=
  Option.bind (f_X12_isAgent p1 σ) fun x1 =>
  if x1 = 0 then (
    some (-1001 : Int32))
  else (
    if inb p1 400 then (
      some (σ.1 (12) (ix p1)))
    else none)
set_option maxRecDepth 20000 in
theorem k_X12_agent (l : Launch) (w : Wo) (p1 : Int32) (σ : St) : K l w shM m_X12_agent 3 [.ref (0), .int p1] σ (f_X12_agent p1 σ) (rI σ) := by
  refine k_of (L := [some (.ref (0)), some (.int p1)]) (plainFor_of_name (by decide +kernel)) 0 rfl (Nat.le_of_ble_eq_true rfl) ?_
  unfold f_X12_agent
  refine gg_st (go_aload_n 0 d_X12_agent_0 rfl rfl rfl) ?_
  refine gg_st (go_iload_n 1 d_X12_agent_1 rfl rfl rfl) ?_
  refine gv_I (k_X12_isAgent l w p1 σ) cv_X12_406 sM_0 (Nat.le_of_ble_eq_true rfl) rfl rfl (Nat.le_of_ble_eq_true rfl) d_X12_agent_2 rfl (fun x1 => ?_)
  refine gg_br (br_if_eq (tgt := 17) (pc' := 8) d_X12_agent_5 (by decide) rfl) (fun h3 => ?_) (fun h3 => ?_)
  · refine gg_st (go_sipush d_X12_agent_17 cs_m1001 rfl) ?_
    exact gg_iret rfl d_X12_agent_20 rfl
  · refine gg_st (go_aload_n 0 d_X12_agent_8 rfl rfl rfl) ?_
    refine gg_st (go_getR (j := 15) cf12 sM_0 rfl (by decide) fl_X12_49 d_X12_agent_9 rfl) ?_
    refine gg_st (go_iload_n 1 d_X12_agent_12 rfl rfl rfl) ?_
    refine gg_gd (fun h4 => ?_)
    refine gg_st (go_iald sM_12 h4 d_X12_agent_13 rfl) ?_
    refine gg_st (go_goto (pc' := 20) d_X12_agent_14 (by decide)) ?_
    exact gg_iret rfl d_X12_agent_20 rfl
def f_X12_agentMany_L4 (F : Nat) (σ : St) : Nat → Int32 → Int32 → Option (Int32)
  | 0, _, _ => none
  | n + 1, v1, v2 =>
    if v2 < (400 : Int32) then (
      if inb v2 400 then (
        Option.bind (
          if 0 ≤ (σ.1 (12) (ix v2)) then (
            some (1 : Int32))
          else (
            some (0 : Int32))) fun t6 =>
        Option.bind (some (v1 + t6)) fun x8 =>
        f_X12_agentMany_L4 F σ n x8 (v2 + (1 : Int32)))
      else none)
    else (
      some v1)
def f_X12_agentMany (F : Nat) (σ : St) : Option (Int32) :=
  Option.bind (f_X12_agentMany_L4 F σ F (0 : Int32) (0 : Int32)) fun t9 =>
  some t9
set_option maxRecDepth 20000 in
theorem g_f_X12_agentMany_L4 (l : Launch) (w : Wo) (F : Nat) (σ : St) : ∀ (n : Nat) (v1 : Int32) (v2 : Int32), GG l w shM m_X12_agentMany 1 4 [some (.ref (0)), some (.int v1), some (.int v2)] [] σ (f_X12_agentMany_L4 F σ n v1 v2) (fun (t : Int32) => .inl (34, [none, some (.int t), none], [], σ)) := by
  intro n
  induction n with
  | zero =>
    intro v1 v2
    exact gg_none
  | succ n ih =>
    intro v1 v2
    rw [f_X12_agentMany_L4]
    refine gg_st (go_iload_n 2 d_X12_agentMany_4 rfl rfl rfl) ?_
    refine gg_st (go_sipush d_X12_agentMany_5 cs_400 rfl) ?_
    refine gg_br (br_icmp_ge (tgt := 34) (pc' := 11) d_X12_agentMany_8 (by decide) rfl) (fun h4 => ?_) (fun h4 => ?_)
    · refine gg_st (go_iload_n 1 d_X12_agentMany_11 rfl rfl rfl) ?_
      refine gg_st (go_aload_n 0 d_X12_agentMany_12 rfl rfl rfl) ?_
      refine gg_st (go_getR (j := 15) cf12 sM_0 rfl (by decide) fl_X12_49 d_X12_agentMany_13 rfl) ?_
      refine gg_st (go_iload_n 2 d_X12_agentMany_16 rfl rfl rfl) ?_
      refine gg_gd (fun h5 => ?_)
      refine gg_st (go_iald sM_12 h5 d_X12_agentMany_17 rfl) ?_
      refine gg_bind 26 (fun (t6 : Int32) => [some (.ref (0)), none, some (.int v2)]) (fun (t6 : Int32) => [.int t6, .int v1]) (fun (t6 : Int32) => σ) ?_ (fun t6 => ?_)
      · refine gg_br (br_if_lt (tgt := 25) (pc' := 21) d_X12_agentMany_18 (by decide) rfl) (fun h7 => ?_) (fun h7 => ?_)
        · refine gg_st (go_iconst d_X12_agentMany_21 ci_1 rfl) ?_
          refine gg_st (go_goto (pc' := 26) d_X12_agentMany_22 (by decide)) ?_
          refine gg_st (go_fg [some (.ref (0)), none, some (.int v2)] ⟨rfl, ⟨rfl, trivial⟩⟩) ?_
          exact gg_end rfl
        · refine gg_st (go_iconst d_X12_agentMany_25 ci_0 rfl) ?_
          refine gg_st (go_fg [some (.ref (0)), none, some (.int v2)] ⟨rfl, ⟨rfl, trivial⟩⟩) ?_
          exact gg_end rfl
      · refine gg_st (go_iadd d_X12_agentMany_26 rfl) ?_
        refine gg_nm (fun _ => [some (.ref (0)), none, some (.int v2)]) (fun (x8 : Int32) => [.int x8]) (fun x8 => ?_)
        refine gg_st (go_istore_n 1 d_X12_agentMany_27 rfl (by decide) (L' := [some (.ref (0)), some (.int x8), some (.int v2)]) rfl rfl) ?_
        refine gg_st (go_iinc 2 d_X12_agentMany_28 rfl (v := v2 + (1 : Int32)) (by rw [ci_1]) (by decide) (L' := [some (.ref (0)), some (.int x8), some (.int (v2 + (1 : Int32)))]) rfl rfl) ?_
        refine gg_st (go_goto (pc' := 4) d_X12_agentMany_31 (by decide)) ?_
        exact ih x8 (v2 + (1 : Int32))
    · refine gg_st (go_fg [none, some (.int v1), none] ⟨rfl, trivial⟩) ?_
      exact gg_end rfl
set_option maxRecDepth 20000 in
theorem k_X12_agentMany (l : Launch) (w : Wo) (F : Nat) (σ : St) : K l w shM m_X12_agentMany 1 [.ref (0)] σ (f_X12_agentMany F σ) (rI σ) := by
  refine k_of (L := [some (.ref (0)), none, none]) (plainFor_of_name (by decide +kernel)) 2 rfl (Nat.le_of_ble_eq_true rfl) ?_
  unfold f_X12_agentMany
  refine gg_st (go_iconst d_X12_agentMany_0 ci_0 rfl) ?_
  refine gg_st (go_istore_n 1 d_X12_agentMany_1 rfl (by decide) (L' := [some (.ref (0)), some (.int (0 : Int32)), none]) rfl rfl) ?_
  refine gg_st (go_iconst d_X12_agentMany_2 ci_0 rfl) ?_
  refine gg_st (go_istore_n 2 d_X12_agentMany_3 rfl (by decide) (L' := [some (.ref (0)), some (.int (0 : Int32)), some (.int (0 : Int32))]) rfl rfl) ?_
  refine gg_bind 34 (fun (t9 : Int32) => [none, some (.int t9), none]) (fun (t9 : Int32) => []) (fun (t9 : Int32) => σ) (g_f_X12_agentMany_L4 l w F σ F (0 : Int32) (0 : Int32)) (fun t9 => ?_)
  refine gg_st (go_iload_n 1 d_X12_agentMany_34 rfl rfl rfl) ?_
  exact gg_iret rfl d_X12_agentMany_35 rfl
def f_X12_agentOf (p1 : Int32) (p2 : Int32) (p3 : Int32) (σ : St) : Option (Int32) :=
  if p1 = 0 then (
    if inb p3 400 then (
      some (σ.1 (12) (ix p3)))
    else none)
  else (
    if inb (((400 : Int32) * p2) + p3) 1600 then (
      some (σ.1 (44) (ix (((400 : Int32) * p2) + p3))))
    else none)
set_option maxRecDepth 20000 in
theorem k_X12_agentOf (l : Launch) (w : Wo) (p1 : Int32) (p2 : Int32) (p3 : Int32) (σ : St) : K l w shM m_X12_agentOf 1 [.ref (0), .int p1, .int p2, .int p3] σ (f_X12_agentOf p1 p2 p3 σ) (rI σ) := by
  refine k_of (L := [some (.ref (0)), some (.int p1), some (.int p2), some (.int p3)]) (plainFor_of_name (by decide +kernel)) 0 rfl (Nat.le_of_ble_eq_true rfl) ?_
  unfold f_X12_agentOf
  refine gg_st (go_iload_n 1 d_X12_agentOf_0 rfl rfl rfl) ?_
  refine gg_br (br_if_ne (tgt := 13) (pc' := 4) d_X12_agentOf_1 (by decide) rfl) (fun h3 => ?_) (fun h3 => ?_)
  · refine gg_st (go_aload_n 0 d_X12_agentOf_4 rfl rfl rfl) ?_
    refine gg_st (go_getR (j := 15) cf12 sM_0 rfl (by decide) fl_X12_49 d_X12_agentOf_5 rfl) ?_
    refine gg_st (go_iload_n 3 d_X12_agentOf_8 rfl rfl rfl) ?_
    refine gg_gd (fun h4 => ?_)
    refine gg_st (go_iald sM_12 h4 d_X12_agentOf_9 rfl) ?_
    refine gg_st (go_goto (pc' := 25) d_X12_agentOf_10 (by decide)) ?_
    exact gg_iret rfl d_X12_agentOf_25 rfl
  · refine gg_st (go_aload_n 0 d_X12_agentOf_13 rfl rfl rfl) ?_
    refine gg_st (go_getR (j := 73) cf12 sM_0 rfl (by decide) fl_X12_149 d_X12_agentOf_14 rfl) ?_
    refine gg_st (go_sipush d_X12_agentOf_17 cs_400 rfl) ?_
    refine gg_st (go_iload_n 2 d_X12_agentOf_20 rfl rfl rfl) ?_
    refine gg_st (go_imul d_X12_agentOf_21 rfl) ?_
    refine gg_st (go_iload_n 3 d_X12_agentOf_22 rfl rfl rfl) ?_
    refine gg_st (go_iadd d_X12_agentOf_23 rfl) ?_
    refine gg_gd (fun h5 => ?_)
    refine gg_st (go_iald sM_44 h5 d_X12_agentOf_24 rfl) ?_
    exact gg_iret rfl d_X12_agentOf_25 rfl
def f_X12_asReached (p1 : Int32) (p2 : Int32) (σ : St) : Option (Int32) :=
  if p2 < 0 then (
    some p2)
  else (
    if inb (((400 : Int32) * p1) + (p2 / (5 : Int32))) 800 then (
      some (((5 : Int32) * (σ.1 (50) (ix (((400 : Int32) * p1) + (p2 / (5 : Int32)))))) + (p2 - p2 / (5 : Int32) * (5 : Int32))))
    else none)
set_option maxRecDepth 20000 in
theorem k_X12_asReached (l : Launch) (w : Wo) (p1 : Int32) (p2 : Int32) (σ : St) : K l w shM m_X12_asReached 1 [.ref (0), .int p1, .int p2] σ (f_X12_asReached p1 p2 σ) (rI σ) := by
  refine k_of (L := [some (.ref (0)), some (.int p1), some (.int p2)]) (plainFor_of_name (by decide +kernel)) 0 rfl (Nat.le_of_ble_eq_true rfl) ?_
  unfold f_X12_asReached
  refine gg_st (go_iload_n 2 d_X12_asReached_0 rfl rfl rfl) ?_
  refine gg_br (br_if_ge (tgt := 8) (pc' := 4) d_X12_asReached_1 (by decide) rfl) (fun h2 => ?_) (fun h2 => ?_)
  · refine gg_st (go_iload_n 2 d_X12_asReached_4 rfl rfl rfl) ?_
    refine gg_st (go_goto (pc' := 28) d_X12_asReached_5 (by decide)) ?_
    exact gg_iret rfl d_X12_asReached_28 rfl
  · refine gg_st (go_iconst d_X12_asReached_8 ci_5 rfl) ?_
    refine gg_st (go_aload_n 0 d_X12_asReached_9 rfl rfl rfl) ?_
    refine gg_st (go_getR (j := 79) cf12 sM_0 rfl (by decide) fl_X12_167 d_X12_asReached_10 rfl) ?_
    refine gg_st (go_sipush d_X12_asReached_13 cs_400 rfl) ?_
    refine gg_st (go_iload_n 1 d_X12_asReached_16 rfl rfl rfl) ?_
    refine gg_st (go_imul d_X12_asReached_17 rfl) ?_
    refine gg_st (go_iload_n 2 d_X12_asReached_18 rfl rfl rfl) ?_
    refine gg_st (go_iconst d_X12_asReached_19 ci_5 rfl) ?_
    refine gg_st (go_idiv d_X12_asReached_20 (by decide) rfl) ?_
    refine gg_st (go_iadd d_X12_asReached_21 rfl) ?_
    refine gg_gd (fun h3 => ?_)
    refine gg_st (go_iald sM_50 h3 d_X12_asReached_22 rfl) ?_
    refine gg_st (go_imul d_X12_asReached_23 rfl) ?_
    refine gg_st (go_iload_n 2 d_X12_asReached_24 rfl rfl rfl) ?_
    refine gg_st (go_iconst d_X12_asReached_25 ci_5 rfl) ?_
    refine gg_st (go_irem d_X12_asReached_26 (by decide) rfl) ?_
    refine gg_st (go_iadd d_X12_asReached_27 rfl) ?_
    exact gg_iret rfl d_X12_asReached_28 rfl
def f_X12_asTold (p1 : Int32) : Option (Int32) :=
  if p1 < 0 then (
    some p1)
  else (
    some (((8 : Int32) * (p1 / (5 : Int32))) + (p1 - p1 / (5 : Int32) * (5 : Int32))))
set_option maxRecDepth 20000 in
theorem k_X12_asTold (l : Launch) (w : Wo) (p1 : Int32) (σ : St) : K l w shM m_X12_asTold 1 [.int p1] σ (f_X12_asTold p1) (rI σ) := by
  refine k_of (L := [some (.int p1)]) (plainFor_of_name (by decide +kernel)) 0 rfl (Nat.le_of_ble_eq_true rfl) ?_
  unfold f_X12_asTold
  refine gg_st (go_iload_n 0 d_X12_asTold_0 rfl rfl rfl) ?_
  refine gg_br (br_if_ge (tgt := 8) (pc' := 4) d_X12_asTold_1 (by decide) rfl) (fun h1 => ?_) (fun h1 => ?_)
  · refine gg_st (go_iload_n 0 d_X12_asTold_4 rfl rfl rfl) ?_
    refine gg_st (go_goto (pc' := 18) d_X12_asTold_5 (by decide)) ?_
    exact gg_iret rfl d_X12_asTold_18 rfl
  · refine gg_st (go_bipush d_X12_asTold_8 cb_8 rfl) ?_
    refine gg_st (go_iload_n 0 d_X12_asTold_10 rfl rfl rfl) ?_
    refine gg_st (go_iconst d_X12_asTold_11 ci_5 rfl) ?_
    refine gg_st (go_idiv d_X12_asTold_12 (by decide) rfl) ?_
    refine gg_st (go_imul d_X12_asTold_13 rfl) ?_
    refine gg_st (go_iload_n 0 d_X12_asTold_14 rfl rfl rfl) ?_
    refine gg_st (go_iconst d_X12_asTold_15 ci_5 rfl) ?_
    refine gg_st (go_irem d_X12_asTold_16 (by decide) rfl) ?_
    refine gg_st (go_iadd d_X12_asTold_17 rfl) ?_
    exact gg_iret rfl d_X12_asTold_18 rfl
def f_X12_isShelf (p1 : Int32) : Option (Int32) :=
  Option.bind (some (f_X12_in (p1.toInt64) (0 : Int64) (3 : Int64))) fun x1 =>
  if x1 = 0 ∨ x1 = 1 then some x1 else none
set_option maxRecDepth 20000 in
theorem k_X12_isShelf (l : Launch) (w : Wo) (p1 : Int32) (σ : St) : K l w shM m_X12_isShelf 2 [.int p1] σ (f_X12_isShelf p1) (rI σ) := by
  refine k_of (L := [some (.int p1)]) (plainFor_of_name (by decide +kernel)) 0 rfl (Nat.le_of_ble_eq_true rfl) ?_
  unfold f_X12_isShelf
  refine gg_st (go_iload_n 0 d_X12_isShelf_0 rfl rfl rfl) ?_
  refine gg_st (go_i2l d_X12_isShelf_1 rfl) ?_
  refine gg_st (go_lconst d_X12_isShelf_2 (v := (0 : Int64)) (by decide) rfl) ?_
  refine gg_st (go_ldc2 ll_X12_437 d_X12_isShelf_3 rfl) ?_
  refine gs_I (k_X12_in l w (p1.toInt64) (0 : Int64) (3 : Int64) σ) cs_X12_191 (Nat.le_of_ble_eq_true rfl) rfl rfl (Nat.le_of_ble_eq_true rfl) d_X12_isShelf_6 rfl (fun x1 => ?_)
  refine gg_gd (fun h2 => ?_)
  exact gg_zret h2 rfl d_X12_isShelf_9 rfl
def f_X12_back_L26 (F : Nat) (c1 : Int32) : Nat → Int32 → St → Option (St)
  | 0, _, _ => none
  | n + 1, v6, g =>
    if v6 < (400 : Int32) then (
      if inb (((400 : Int32) * c1) + v6) 1600 then (
        if inb v6 400 then (
          Option.bind (some (seti g (12) (ix v6) (g.1 (44) (ix (((400 : Int32) * c1) + v6))))) fun s11 =>
          f_X12_back_L26 F c1 n (v6 + (1 : Int32)) s11)
        else none)
      else none)
    else (
      some g)
def f_X12_back_L59 (F : Nat) (c1 : Int32) : Nat → Int32 → St → Option (St)
  | 0, _, _ => none
  | n + 1, v13, g =>
    if v13 < (2000 : Int32) then (
      if inb (((2000 : Int32) * c1) + v13) 8000 then (
        if inb v13 2000 then (
          Option.bind (some (seti g (13) (ix v13) (g.1 (45) (ix (((2000 : Int32) * c1) + v13))))) fun s18 =>
          f_X12_back_L59 F c1 n (v13 + (1 : Int32)) s18)
        else none)
      else none)
    else (
      some g)
def f_X12_back_L92 (F : Nat) (c1 : Int32) : Nat → Int32 → St → Option (St)
  | 0, _, _ => none
  | n + 1, v20, g =>
    if v20 < (8 : Int32) then (
      if inb (((8 : Int32) * c1) + v20) 32 then (
        if inb v20 8 then (
          Option.bind (some (seti g (14) (ix v20) (g.1 (46) (ix (((8 : Int32) * c1) + v20))))) fun s25 =>
          f_X12_back_L92 F c1 n (v20 + (1 : Int32)) s25)
        else none)
      else none)
    else (
      some g)
def f_X12_back (F : Nat) (p1 : Int32) (σ : St) : Option (Int32 × St) :=
  Option.bind (f_X12_isShelf p1) fun x1 =>
  if x1 = 0 then (
    some ((-1001 : Int32), σ))
  else (
    if inb p1 4 then (
      if (σ.1 (47) (ix p1)) < 0 then (
        some ((-1003 : Int32), σ))
      else (
        Option.bind (f_X12_back_L26 F p1 F (0 : Int32) σ) fun t12 =>
        Option.bind (f_X12_back_L59 F p1 F (0 : Int32) t12) fun t19 =>
        Option.bind (f_X12_back_L92 F p1 F (0 : Int32) t19) fun t26 =>
        if inb p1 4 then (
          Option.bind (some (seti t26 (0) 18 (t26.1 (47) (ix p1)))) fun s28 =>
          if inb p1 4 then (
            Option.bind (some (seti s28 (0) 19 (s28.1 (48) (ix p1)))) fun s30 =>
            Option.bind (f_X12_agentMany F s30) fun x31 =>
            Option.bind (
              if (s30.1 (0) 21) < x31 then (
                some x31)
              else (
                some (s30.1 (0) 21))) fun t32 =>
            Option.bind (some (seti s30 (0) 21 t32)) fun s34 =>
            some (x31, s34))
          else none)
        else none))
    else none)
set_option maxRecDepth 20000 in
theorem g_f_X12_back_L26 (l : Launch) (w : Wo) (F : Nat) (c1 : Int32) : ∀ (n : Nat) (v6 : Int32) (g : St), GG l w shM m_X12_back 3 26 [some (.ref (0)), some (.int c1), some (.int v6)] [] g (f_X12_back_L26 F c1 n v6 g) (fun (t : St) => .inl (57, [some (.ref (0)), some (.int c1), none], [], t)) := by
  intro n
  induction n with
  | zero =>
    intro v6 g
    exact gg_none
  | succ n ih =>
    intro v6 g
    rw [f_X12_back_L26]
    refine gg_st (go_iload_n 2 d_X12_back_26 rfl rfl rfl) ?_
    refine gg_st (go_sipush d_X12_back_27 cs_400 rfl) ?_
    refine gg_br (br_icmp_ge (tgt := 57) (pc' := 33) d_X12_back_30 (by decide) rfl) (fun h8 => ?_) (fun h8 => ?_)
    · refine gg_st (go_aload_n 0 d_X12_back_33 rfl rfl rfl) ?_
      refine gg_st (go_getR (j := 15) cf12 sM_0 rfl (by decide) fl_X12_49 d_X12_back_34 rfl) ?_
      refine gg_st (go_iload_n 2 d_X12_back_37 rfl rfl rfl) ?_
      refine gg_st (go_aload_n 0 d_X12_back_38 rfl rfl rfl) ?_
      refine gg_st (go_getR (j := 73) cf12 sM_0 rfl (by decide) fl_X12_149 d_X12_back_39 rfl) ?_
      refine gg_st (go_sipush d_X12_back_42 cs_400 rfl) ?_
      refine gg_st (go_iload_n 1 d_X12_back_45 rfl rfl rfl) ?_
      refine gg_st (go_imul d_X12_back_46 rfl) ?_
      refine gg_st (go_iload_n 2 d_X12_back_47 rfl rfl rfl) ?_
      refine gg_st (go_iadd d_X12_back_48 rfl) ?_
      refine gg_gd (fun h9 => ?_)
      refine gg_st (go_iald sM_44 h9 d_X12_back_49 rfl) ?_
      refine gg_gd (fun h10 => ?_)
      refine gg_st (go_iast sM_12 h10 d_X12_back_50 rfl) ?_
      refine gg_som (fun s11 => ?_)
      refine gg_st (go_iinc 2 d_X12_back_51 rfl (v := v6 + (1 : Int32)) (by rw [ci_1]) (by decide) (L' := [some (.ref (0)), some (.int c1), some (.int (v6 + (1 : Int32)))]) rfl rfl) ?_
      refine gg_st (go_goto (pc' := 26) d_X12_back_54 (by decide)) ?_
      exact ih (v6 + (1 : Int32)) s11
    · refine gg_st (go_fg [some (.ref (0)), some (.int c1), none] ⟨rfl, ⟨rfl, trivial⟩⟩) ?_
      exact gg_end rfl
set_option maxRecDepth 20000 in
theorem g_f_X12_back_L59 (l : Launch) (w : Wo) (F : Nat) (c1 : Int32) : ∀ (n : Nat) (v13 : Int32) (g : St), GG l w shM m_X12_back 3 59 [some (.ref (0)), some (.int c1), some (.int v13)] [] g (f_X12_back_L59 F c1 n v13 g) (fun (t : St) => .inl (90, [some (.ref (0)), some (.int c1), none], [], t)) := by
  intro n
  induction n with
  | zero =>
    intro v13 g
    exact gg_none
  | succ n ih =>
    intro v13 g
    rw [f_X12_back_L59]
    refine gg_st (go_iload_n 2 d_X12_back_59 rfl rfl rfl) ?_
    refine gg_st (go_sipush d_X12_back_60 cs_2000 rfl) ?_
    refine gg_br (br_icmp_ge (tgt := 90) (pc' := 66) d_X12_back_63 (by decide) rfl) (fun h15 => ?_) (fun h15 => ?_)
    · refine gg_st (go_aload_n 0 d_X12_back_66 rfl rfl rfl) ?_
      refine gg_st (go_getR (j := 16) cf12 sM_0 rfl (by decide) fl_X12_52 d_X12_back_67 rfl) ?_
      refine gg_st (go_iload_n 2 d_X12_back_70 rfl rfl rfl) ?_
      refine gg_st (go_aload_n 0 d_X12_back_71 rfl rfl rfl) ?_
      refine gg_st (go_getR (j := 74) cf12 sM_0 rfl (by decide) fl_X12_152 d_X12_back_72 rfl) ?_
      refine gg_st (go_sipush d_X12_back_75 cs_2000 rfl) ?_
      refine gg_st (go_iload_n 1 d_X12_back_78 rfl rfl rfl) ?_
      refine gg_st (go_imul d_X12_back_79 rfl) ?_
      refine gg_st (go_iload_n 2 d_X12_back_80 rfl rfl rfl) ?_
      refine gg_st (go_iadd d_X12_back_81 rfl) ?_
      refine gg_gd (fun h16 => ?_)
      refine gg_st (go_iald sM_45 h16 d_X12_back_82 rfl) ?_
      refine gg_gd (fun h17 => ?_)
      refine gg_st (go_iast sM_13 h17 d_X12_back_83 rfl) ?_
      refine gg_som (fun s18 => ?_)
      refine gg_st (go_iinc 2 d_X12_back_84 rfl (v := v13 + (1 : Int32)) (by rw [ci_1]) (by decide) (L' := [some (.ref (0)), some (.int c1), some (.int (v13 + (1 : Int32)))]) rfl rfl) ?_
      refine gg_st (go_goto (pc' := 59) d_X12_back_87 (by decide)) ?_
      exact ih (v13 + (1 : Int32)) s18
    · refine gg_st (go_fg [some (.ref (0)), some (.int c1), none] ⟨rfl, ⟨rfl, trivial⟩⟩) ?_
      exact gg_end rfl
set_option maxRecDepth 20000 in
theorem g_f_X12_back_L92 (l : Launch) (w : Wo) (F : Nat) (c1 : Int32) : ∀ (n : Nat) (v20 : Int32) (g : St), GG l w shM m_X12_back 3 92 [some (.ref (0)), some (.int c1), some (.int v20)] [] g (f_X12_back_L92 F c1 n v20 g) (fun (t : St) => .inl (121, [some (.ref (0)), some (.int c1), none], [], t)) := by
  intro n
  induction n with
  | zero =>
    intro v20 g
    exact gg_none
  | succ n ih =>
    intro v20 g
    rw [f_X12_back_L92]
    refine gg_st (go_iload_n 2 d_X12_back_92 rfl rfl rfl) ?_
    refine gg_st (go_bipush d_X12_back_93 cb_8 rfl) ?_
    refine gg_br (br_icmp_ge (tgt := 121) (pc' := 98) d_X12_back_95 (by decide) rfl) (fun h22 => ?_) (fun h22 => ?_)
    · refine gg_st (go_aload_n 0 d_X12_back_98 rfl rfl rfl) ?_
      refine gg_st (go_getR (j := 17) cf12 sM_0 rfl (by decide) fl_X12_55 d_X12_back_99 rfl) ?_
      refine gg_st (go_iload_n 2 d_X12_back_102 rfl rfl rfl) ?_
      refine gg_st (go_aload_n 0 d_X12_back_103 rfl rfl rfl) ?_
      refine gg_st (go_getR (j := 75) cf12 sM_0 rfl (by decide) fl_X12_155 d_X12_back_104 rfl) ?_
      refine gg_st (go_bipush d_X12_back_107 cb_8 rfl) ?_
      refine gg_st (go_iload_n 1 d_X12_back_109 rfl rfl rfl) ?_
      refine gg_st (go_imul d_X12_back_110 rfl) ?_
      refine gg_st (go_iload_n 2 d_X12_back_111 rfl rfl rfl) ?_
      refine gg_st (go_iadd d_X12_back_112 rfl) ?_
      refine gg_gd (fun h23 => ?_)
      refine gg_st (go_iald sM_46 h23 d_X12_back_113 rfl) ?_
      refine gg_gd (fun h24 => ?_)
      refine gg_st (go_iast sM_14 h24 d_X12_back_114 rfl) ?_
      refine gg_som (fun s25 => ?_)
      refine gg_st (go_iinc 2 d_X12_back_115 rfl (v := v20 + (1 : Int32)) (by rw [ci_1]) (by decide) (L' := [some (.ref (0)), some (.int c1), some (.int (v20 + (1 : Int32)))]) rfl rfl) ?_
      refine gg_st (go_goto (pc' := 92) d_X12_back_118 (by decide)) ?_
      exact ih (v20 + (1 : Int32)) s25
    · refine gg_st (go_fg [some (.ref (0)), some (.int c1), none] ⟨rfl, ⟨rfl, trivial⟩⟩) ?_
      exact gg_end rfl
set_option maxRecDepth 20000 in
theorem k_X12_back (l : Launch) (w : Wo) (F : Nat) (p1 : Int32) (σ : St) : K l w shM m_X12_back 3 [.ref (0), .int p1] σ (f_X12_back F p1 σ) (rIS) := by
  refine k_of (L := [some (.ref (0)), some (.int p1), none]) (plainFor_of_name (by decide +kernel)) 1 rfl (Nat.le_of_ble_eq_true rfl) ?_
  unfold f_X12_back
  refine gg_st (go_iload_n 1 d_X12_back_0 rfl rfl rfl) ?_
  refine gs_I (k_X12_isShelf l w p1 σ) cs_X12_447 (Nat.le_of_ble_eq_true rfl) rfl rfl (Nat.le_of_ble_eq_true rfl) d_X12_back_1 rfl (fun x1 => ?_)
  refine gg_br (br_if_ne (tgt := 11) (pc' := 7) d_X12_back_4 (by decide) rfl) (fun h3 => ?_) (fun h3 => ?_)
  · refine gg_st (go_sipush d_X12_back_7 cs_m1001 rfl) ?_
    exact gg_iret rfl d_X12_back_10 rfl
  · refine gg_st (go_aload_n 0 d_X12_back_11 rfl rfl rfl) ?_
    refine gg_st (go_getR (j := 76) cf12 sM_0 rfl (by decide) fl_X12_158 d_X12_back_12 rfl) ?_
    refine gg_st (go_iload_n 1 d_X12_back_15 rfl rfl rfl) ?_
    refine gg_gd (fun h4 => ?_)
    refine gg_st (go_iald sM_47 h4 d_X12_back_16 rfl) ?_
    refine gg_br (br_if_ge (tgt := 24) (pc' := 20) d_X12_back_17 (by decide) rfl) (fun h5 => ?_) (fun h5 => ?_)
    · refine gg_st (go_sipush d_X12_back_20 cs_m1003 rfl) ?_
      exact gg_iret rfl d_X12_back_23 rfl
    · refine gg_st (go_iconst d_X12_back_24 ci_0 rfl) ?_
      refine gg_st (go_istore_n 2 d_X12_back_25 rfl (by decide) (L' := [some (.ref (0)), some (.int p1), some (.int (0 : Int32))]) rfl rfl) ?_
      refine gg_bind 57 (fun (t12 : St) => [some (.ref (0)), some (.int p1), none]) (fun (t12 : St) => []) (fun (t12 : St) => t12) (g_f_X12_back_L26 l w F p1 F (0 : Int32) σ) (fun t12 => ?_)
      refine gg_st (go_iconst d_X12_back_57 ci_0 rfl) ?_
      refine gg_st (go_istore_n 2 d_X12_back_58 rfl (by decide) (L' := [some (.ref (0)), some (.int p1), some (.int (0 : Int32))]) rfl rfl) ?_
      refine gg_bind 90 (fun (t19 : St) => [some (.ref (0)), some (.int p1), none]) (fun (t19 : St) => []) (fun (t19 : St) => t19) (g_f_X12_back_L59 l w F p1 F (0 : Int32) t12) (fun t19 => ?_)
      refine gg_st (go_iconst d_X12_back_90 ci_0 rfl) ?_
      refine gg_st (go_istore_n 2 d_X12_back_91 rfl (by decide) (L' := [some (.ref (0)), some (.int p1), some (.int (0 : Int32))]) rfl rfl) ?_
      refine gg_bind 121 (fun (t26 : St) => [some (.ref (0)), some (.int p1), none]) (fun (t26 : St) => []) (fun (t26 : St) => t26) (g_f_X12_back_L92 l w F p1 F (0 : Int32) t19) (fun t26 => ?_)
      refine gg_st (go_aload_n 0 d_X12_back_121 rfl rfl rfl) ?_
      refine gg_st (go_aload_n 0 d_X12_back_122 rfl rfl rfl) ?_
      refine gg_st (go_getR (j := 76) cf12 sM_0 rfl (by decide) fl_X12_158 d_X12_back_123 rfl) ?_
      refine gg_st (go_iload_n 1 d_X12_back_126 rfl rfl rfl) ?_
      refine gg_gd (fun h27 => ?_)
      refine gg_st (go_iald sM_47 h27 d_X12_back_127 rfl) ?_
      refine gg_st (go_putI (j := 18) cf12 sM_0 rfl (by decide) rfl rfl fl_X12_182 d_X12_back_128 rfl) ?_
      refine gg_som (fun s28 => ?_)
      refine gg_st (go_aload_n 0 d_X12_back_131 rfl rfl rfl) ?_
      refine gg_st (go_aload_n 0 d_X12_back_132 rfl rfl rfl) ?_
      refine gg_st (go_getR (j := 77) cf12 sM_0 rfl (by decide) fl_X12_161 d_X12_back_133 rfl) ?_
      refine gg_st (go_iload_n 1 d_X12_back_136 rfl rfl rfl) ?_
      refine gg_gd (fun h29 => ?_)
      refine gg_st (go_iald sM_48 h29 d_X12_back_137 rfl) ?_
      refine gg_st (go_putI (j := 19) cf12 sM_0 rfl (by decide) rfl rfl fl_X12_185 d_X12_back_138 rfl) ?_
      refine gg_som (fun s30 => ?_)
      refine gg_st (go_aload_n 0 d_X12_back_141 rfl rfl rfl) ?_
      refine gv_I (k_X12_agentMany l w F  s30) cv_X12_388 sM_0 (Nat.le_of_ble_eq_true rfl) rfl rfl (Nat.le_of_ble_eq_true rfl) d_X12_back_142 rfl (fun x31 => ?_)
      refine gg_st (go_istore_n 2 d_X12_back_145 rfl (by decide) (L' := [some (.ref (0)), some (.int p1), some (.int x31)]) rfl rfl) ?_
      refine gg_st (go_aload_n 0 d_X12_back_146 rfl rfl rfl) ?_
      refine gg_st (go_iload_n 2 d_X12_back_147 rfl rfl rfl) ?_
      refine gg_st (go_aload_n 0 d_X12_back_148 rfl rfl rfl) ?_
      refine gg_st (go_getI (j := 21) cf12 sM_0 rfl (by decide) fl_X12_363 d_X12_back_149 rfl) ?_
      refine gg_bind 163 (fun (t32 : Int32) => [none, none, some (.int x31)]) (fun (t32 : Int32) => [.int t32, .ref (0)]) (fun (t32 : Int32) => s30) ?_ (fun t32 => ?_)
      · refine gg_br (br_icmp_le (tgt := 159) (pc' := 155) d_X12_back_152 (by decide) rfl) (fun h33 => ?_) (fun h33 => ?_)
        · refine gg_st (go_iload_n 2 d_X12_back_155 rfl rfl rfl) ?_
          refine gg_st (go_goto (pc' := 163) d_X12_back_156 (by decide)) ?_
          refine gg_st (go_fg [none, none, some (.int x31)] ⟨rfl, trivial⟩) ?_
          exact gg_end rfl
        · refine gg_st (go_aload_n 0 d_X12_back_159 rfl rfl rfl) ?_
          refine gg_st (go_getI (j := 21) cf12 sM_0 rfl (by decide) fl_X12_363 d_X12_back_160 rfl) ?_
          refine gg_st (go_fg [none, none, some (.int x31)] ⟨rfl, trivial⟩) ?_
          exact gg_end rfl
      · refine gg_st (go_putI (j := 21) cf12 sM_0 rfl (by decide) rfl rfl fl_X12_363 d_X12_back_163 rfl) ?_
        refine gg_som (fun s34 => ?_)
        refine gg_st (go_iload_n 2 d_X12_back_166 rfl rfl rfl) ?_
        exact gg_iret rfl d_X12_back_167 rfl
def f_X12_beginSheet (p1 : Int32) (σ : St) : Option (St) :=
  Option.bind (some (seti σ (0) 49 (0 : Int32))) fun s1 =>
  Option.bind (some (seti s1 (0) 50 p1)) fun s2 =>
  Option.bind (some (seti s2 (0) 54 (0 : Int32))) fun s3 =>
  some s3
set_option maxRecDepth 20000 in
theorem k_X12_beginSheet (l : Launch) (w : Wo) (p1 : Int32) (σ : St) : K l w shM m_X12_beginSheet 1 [.ref (0), .int p1] σ (f_X12_beginSheet p1 σ) (rV) := by
  refine k_of (L := [some (.ref (0)), some (.int p1)]) (plainFor_of_name (by decide +kernel)) 0 rfl (Nat.le_of_ble_eq_true rfl) ?_
  unfold f_X12_beginSheet
  refine gg_st (go_aload_n 0 d_X12_beginSheet_0 rfl rfl rfl) ?_
  refine gg_st (go_iconst d_X12_beginSheet_1 ci_0 rfl) ?_
  refine gg_st (go_putI (j := 49) cf12 sM_0 rfl (by decide) rfl rfl fl_X12_261 d_X12_beginSheet_2 rfl) ?_
  refine gg_som (fun s1 => ?_)
  refine gg_st (go_aload_n 0 d_X12_beginSheet_5 rfl rfl rfl) ?_
  refine gg_st (go_iload_n 1 d_X12_beginSheet_6 rfl rfl rfl) ?_
  refine gg_st (go_putI (j := 50) cf12 sM_0 rfl (by decide) rfl rfl fl_X12_264 d_X12_beginSheet_7 rfl) ?_
  refine gg_som (fun s2 => ?_)
  refine gg_st (go_aload_n 0 d_X12_beginSheet_10 rfl rfl rfl) ?_
  refine gg_st (go_iconst d_X12_beginSheet_11 ci_0 rfl) ?_
  refine gg_st (go_putI (j := 54) cf12 sM_0 rfl (by decide) rfl rfl fl_X12_267 d_X12_beginSheet_12 rfl) ?_
  refine gg_som (fun s3 => ?_)
  exact gg_vret rfl d_X12_beginSheet_15 rfl
