def f_X10_isLike (F : Nat) (a : Nat) (σ : St) : Option (Int32) :=
  if ((σ.1 (56) 2) = (σ.1 (59) 2)) ∧ (((σ.1 (77) 4) = (σ.1 a 4)) ∧ ((σ.1 (77) 5) = (σ.1 a 5))) then (
    Option.bind (f_X10_hasSameCounts F a σ) fun x1 =>
    if x1 = 0 then (
      some (0 : Int32))
    else (
      Option.bind (f_X10_hasSameEnds F a σ) fun x3 =>
      if x3 = 0 then (
        some (0 : Int32))
      else (
        Option.bind (f_X10_hasSameAgents F a σ) fun x5 =>
        if x5 = 0 then (
          some (0 : Int32))
        else (
          some (1 : Int32)))))
  else (
    some (0 : Int32))
set_option maxRecDepth 20000 in
theorem k_X10_isLike (l : Launch) (w : Wo) (F : Nat) {a : Nat} (ha : a ∈ st39_43_47_51) (σ : St) : K l w shC m_X10_isLike 4 [.ref (56), .ref (77), .ref (59), .ref a, .ref (65)] σ (f_X10_isLike F a σ) (rI σ) := by
  refine k_of (L := [some (.ref (56)), some (.ref (77)), some (.ref (59)), some (.ref a), some (.ref (65))]) (plainFor_of_name (by decide +kernel)) 0 rfl (Nat.le_of_ble_eq_true rfl) ?_
  unfold f_X10_isLike
  refine gg_st (go_aload_n 0 d_X10_isLike_0 rfl rfl rfl) ?_
  refine gg_st (go_getI (j := 2) cf10 sC_56 rfl (by decide) fl_X10_24 d_X10_isLike_1 rfl) ?_
  refine gg_st (go_aload_n 2 d_X10_isLike_4 rfl rfl rfl) ?_
  refine gg_st (go_getI (j := 2) cf10 sC_59 rfl (by decide) fl_X10_24 d_X10_isLike_5 rfl) ?_
  refine gg_two (c := ((σ.1 (56) 2) = (σ.1 (59) 2)) ∧ (((σ.1 (77) 4) = (σ.1 a 4)) ∧ ((σ.1 (77) 5) = (σ.1 a 5)))) (pA := 33) (pB := 67) (LL := [some (.ref (56)), some (.ref (77)), some (.ref (59)), some (.ref a), some (.ref (65))]) (ss := []) ?_ ?_ (fun hA7 hB8 => ?_)
  · refine gg_st (go_aload_n 1 d_X10_isLike_33 rfl rfl rfl) ?_
    refine gg_st (go_aload_n 3 d_X10_isLike_34 rfl rfl rfl) ?_
    refine gs_I (k_X10_hasSameCounts l w F ha σ) cs_X10_70 (Nat.le_of_ble_eq_true rfl) rfl rfl (Nat.le_of_ble_eq_true rfl) d_X10_isLike_35 rfl (fun x1 => ?_)
    refine gg_br (br_if_eq (tgt := 67) (pc' := 41) d_X10_isLike_38 (by decide) rfl) (fun h2 => ?_) (fun h2 => ?_)
    · refine gg_st (go_iconst d_X10_isLike_67 ci_0 rfl) ?_
      exact gg_zret (Or.inl rfl) rfl d_X10_isLike_68 rfl
    · refine gg_st (go_aload_n 0 d_X10_isLike_41 rfl rfl rfl) ?_
      refine gg_st (go_aload_n 1 d_X10_isLike_42 rfl rfl rfl) ?_
      refine gg_st (go_aload_n 2 d_X10_isLike_43 rfl rfl rfl) ?_
      refine gg_st (go_aload_n 3 d_X10_isLike_44 rfl rfl rfl) ?_
      refine gv_I (k_X10_hasSameEnds l w F ha σ) cv_X10_74 sC_56 (Nat.le_of_ble_eq_true rfl) rfl rfl (Nat.le_of_ble_eq_true rfl) d_X10_isLike_45 rfl (fun x3 => ?_)
      refine gg_br (br_if_eq (tgt := 67) (pc' := 51) d_X10_isLike_48 (by decide) rfl) (fun h4 => ?_) (fun h4 => ?_)
      · refine gg_st (go_iconst d_X10_isLike_67 ci_0 rfl) ?_
        exact gg_zret (Or.inl rfl) rfl d_X10_isLike_68 rfl
      · refine gg_st (go_aload_n 0 d_X10_isLike_51 rfl rfl rfl) ?_
        refine gg_st (go_aload_n 1 d_X10_isLike_52 rfl rfl rfl) ?_
        refine gg_st (go_aload_n 2 d_X10_isLike_53 rfl rfl rfl) ?_
        refine gg_st (go_aload_n 3 d_X10_isLike_54 rfl rfl rfl) ?_
        refine gg_st (go_aload 4 d_X10_isLike_55 rfl rfl) ?_
        refine gv_I (k_X10_hasSameAgents l w F ha σ) cv_X10_78 sC_56 (Nat.le_of_ble_eq_true rfl) rfl rfl (Nat.le_of_ble_eq_true rfl) d_X10_isLike_57 rfl (fun x5 => ?_)
        refine gg_br (br_if_eq (tgt := 67) (pc' := 63) d_X10_isLike_60 (by decide) rfl) (fun h6 => ?_) (fun h6 => ?_)
        · refine gg_st (go_iconst d_X10_isLike_67 ci_0 rfl) ?_
          exact gg_zret (Or.inl rfl) rfl d_X10_isLike_68 rfl
        · refine gg_st (go_iconst d_X10_isLike_63 ci_1 rfl) ?_
          refine gg_st (go_goto (pc' := 68) d_X10_isLike_64 (by decide)) ?_
          exact gg_zret (Or.inr rfl) rfl d_X10_isLike_68 rfl
  · refine gg_st (go_iconst d_X10_isLike_67 ci_0 rfl) ?_
    exact gg_zret (Or.inl rfl) rfl d_X10_isLike_68 rfl
  refine gg_brs (br_icmp_ne (tgt := 67) (pc' := 11) d_X10_isLike_8 (by decide) rfl) (fun h9 => ?_) (fun h9 => ?_)
  · refine gg_st (go_aload_n 1 d_X10_isLike_11 rfl rfl rfl) ?_
    refine gg_st (go_getI (j := 4) cf4 sC_77 rfl (by decide) fl_X10_28 d_X10_isLike_12 rfl) ?_
    refine gg_st (go_aload_n 3 d_X10_isLike_15 rfl rfl rfl) ?_
    refine gg_st (go_getI (j := 4) cf4 (sC_st39_43_47_51_0 ha) rfl (by decide) fl_X10_28 d_X10_isLike_16 rfl) ?_
    refine gg_brs (br_icmp_ne (tgt := 67) (pc' := 22) d_X10_isLike_19 (by decide) rfl) (fun h10 => ?_) (fun h10 => ?_)
    · refine gg_st (go_aload_n 1 d_X10_isLike_22 rfl rfl rfl) ?_
      refine gg_st (go_getI (j := 5) cf4 sC_77 rfl (by decide) fl_X10_67 d_X10_isLike_23 rfl) ?_
      refine gg_st (go_aload_n 3 d_X10_isLike_26 rfl rfl rfl) ?_
      refine gg_st (go_getI (j := 5) cf4 (sC_st39_43_47_51_0 ha) rfl (by decide) fl_X10_67 d_X10_isLike_27 rfl) ?_
      refine gg_brs (br_icmp_ne (tgt := 67) (pc' := 33) d_X10_isLike_30 (by decide) rfl) (fun h11 => ?_) (fun h11 => ?_)
      · exact gg_eq (if_pos ⟨h9, ⟨h10, h11⟩⟩) hA7
      · exact gg_eq (if_neg (fun z => (fun z => h11 z.2) z.2)) hB8
    · exact gg_eq (if_neg (fun z => (fun z => h10 z.1) z.2)) hB8
  · exact gg_eq (if_neg (fun z => h9 z.1)) hB8
def f_X10_reachAll_L40 (F : Nat) (a : Nat) (b : Nat) (c4 : Int32) : Nat → Int32 → St → Option (Int32 × St)
  | 0, _, _ => none
  | n + 1, v9, g =>
    if (v9 < (g.1 a 2)) ∧ (v9 < (400 : Int32)) then (
      if inb v9 400 then (
        Option.bind (f_X10_goThrough F a b (g.1 (a + 1) (ix v9)) g) fun s12 =>
        f_X10_reachAll_L40 F a b c4 n (v9 + (1 : Int32)) s12)
      else none)
    else (
      some (v9, g))
def f_X10_reachAll_L18 (F : Nat) (a : Nat) (b : Nat) : Nat → Int32 → Int32 → St → Option (St)
  | 0, _, _, _ => none
  | n + 1, v3, v4, g =>
    if v4 < (g.1 b 4) then (
      Option.bind (some (f_X11_endCode v4)) fun x6 =>
      Option.bind (f_X4_wireOf b x6 g) fun x7 =>
      Option.bind (f_X10_reach a x7 g) fun s8 =>
      Option.bind (f_X10_reachAll_L40 F a b v4 F v3 s8) fun t17 =>
      f_X10_reachAll_L18 F a b n t17.1 (v4 + (1 : Int32)) t17.2)
    else (
      some g)
def f_X10_reachAll (F : Nat) (a : Nat) (b : Nat) (σ : St) : Option (St) :=
  Option.bind (f_J7_fill_53178 F (a + 2) 400 (-1 : Int32) σ) fun s1 =>
  Option.bind (some (seti s1 a 2 (0 : Int32))) fun s2 =>
  Option.bind (f_X10_reachAll_L18 F a b F (0 : Int32) (0 : Int32) s2) fun t18 =>
  some t18
set_option maxRecDepth 20000 in
theorem g_f_X10_reachAll_L40 (l : Launch) (w : Wo) (F : Nat) {a : Nat} (ha : a ∈ st56_59) {b : Nat} (hb : b ∈ st39_43_47_51_77) (c4 : Int32) : ∀ (n : Nat) (v9 : Int32) (g : St), GG l w shC m_X10_reachAll 4 40 [some (.ref a), some (.ref b), some (.ref (65)), some (.int v9), some (.int c4)] [] g (f_X10_reachAll_L40 F a b c4 n v9 g) (fun (t : Int32 × St) => .inl (73, [some (.ref a), some (.ref b), some (.ref (65)), some (.int t.1), some (.int c4)], [], t.2)) := by
  intro n
  induction n with
  | zero =>
    intro v9 g
    exact gg_none
  | succ n ih =>
    intro v9 g
    rw [f_X10_reachAll_L40]
    refine gg_st (go_iload_n 3 d_X10_reachAll_40 rfl rfl rfl) ?_
    refine gg_st (go_aload_n 0 d_X10_reachAll_41 rfl rfl rfl) ?_
    refine gg_st (go_getI (j := 2) cf10 (sC_st56_59_0 ha) rfl (by decide) fl_X10_24 d_X10_reachAll_42 rfl) ?_
    refine gg_two (c := (v9 < (g.1 a 2)) ∧ (v9 < (400 : Int32))) (pA := 55) (pB := 73) (LL := [some (.ref a), some (.ref b), some (.ref (65)), some (.int v9), some (.int c4)]) (ss := []) ?_ ?_ (fun hA13 hB14 => ?_)
    · refine gg_st (go_aload_n 0 d_X10_reachAll_55 rfl rfl rfl) ?_
      refine gg_st (go_aload_n 1 d_X10_reachAll_56 rfl rfl rfl) ?_
      refine gg_st (go_aload_n 2 d_X10_reachAll_57 rfl rfl rfl) ?_
      refine gg_st (go_aload_n 0 d_X10_reachAll_58 rfl rfl rfl) ?_
      refine gg_st (go_getR (j := 0) cf10 (sC_st56_59_0 ha) rfl (by decide) fl_X10_9 d_X10_reachAll_59 rfl) ?_
      refine gg_st (go_iload_n 3 d_X10_reachAll_62 rfl rfl rfl) ?_
      refine gg_gd (fun h11 => ?_)
      refine gg_st (go_iald (sC_st56_59_1 ha) h11 d_X10_reachAll_63 rfl) ?_
      refine gv_V (k_X10_goThrough l w F ha hb (g.1 (a + 1) (ix v9)) g) cv_X10_44 (sC_st56_59_0 ha) (Nat.le_of_ble_eq_true rfl) rfl rfl (Nat.le_of_ble_eq_true rfl) d_X10_reachAll_64 rfl (fun s12 => ?_)
      refine gg_st (go_iinc 3 d_X10_reachAll_67 rfl (v := v9 + (1 : Int32)) (by rw [ci_1]) (by decide) (L' := [some (.ref a), some (.ref b), some (.ref (65)), some (.int (v9 + (1 : Int32))), some (.int c4)]) rfl rfl) ?_
      refine gg_st (go_goto (pc' := 40) d_X10_reachAll_70 (by decide)) ?_
      exact ih (v9 + (1 : Int32)) s12
    · exact gg_end rfl
    refine gg_brs (br_icmp_ge (tgt := 73) (pc' := 48) d_X10_reachAll_45 (by decide) rfl) (fun h15 => ?_) (fun h15 => ?_)
    · refine gg_st (go_iload_n 3 d_X10_reachAll_48 rfl rfl rfl) ?_
      refine gg_st (go_sipush d_X10_reachAll_49 cs_400 rfl) ?_
      refine gg_brs (br_icmp_ge (tgt := 73) (pc' := 55) d_X10_reachAll_52 (by decide) rfl) (fun h16 => ?_) (fun h16 => ?_)
      · exact gg_eq (if_pos ⟨h15, h16⟩) hA13
      · exact gg_eq (if_neg (fun z => h16 z.2)) hB14
    · exact gg_eq (if_neg (fun z => h15 z.1)) hB14
set_option maxRecDepth 20000 in
theorem g_f_X10_reachAll_L18 (l : Launch) (w : Wo) (F : Nat) {a : Nat} (ha : a ∈ st56_59) {b : Nat} (hb : b ∈ st39_43_47_51_77) : ∀ (n : Nat) (v3 : Int32) (v4 : Int32) (g : St), GG l w shC m_X10_reachAll 4 18 [some (.ref a), some (.ref b), some (.ref (65)), some (.int v3), some (.int v4)] [] g (f_X10_reachAll_L18 F a b n v3 v4 g) (fun (t : St) => .inl (79, [none, none, none, none, none], [], t)) := by
  intro n
  induction n with
  | zero =>
    intro v3 v4 g
    exact gg_none
  | succ n ih =>
    intro v3 v4 g
    rw [f_X10_reachAll_L18]
    refine gg_st (go_iload 4 d_X10_reachAll_18 rfl rfl) ?_
    refine gg_st (go_aload_n 1 d_X10_reachAll_20 rfl rfl rfl) ?_
    refine gg_st (go_getI (j := 4) cf4 (sC_st39_43_47_51_77_0 hb) rfl (by decide) fl_X10_28 d_X10_reachAll_21 rfl) ?_
    refine gg_br (br_icmp_ge (tgt := 79) (pc' := 27) d_X10_reachAll_24 (by decide) rfl) (fun h5 => ?_) (fun h5 => ?_)
    · refine gg_st (go_aload_n 0 d_X10_reachAll_27 rfl rfl rfl) ?_
      refine gg_st (go_aload_n 1 d_X10_reachAll_28 rfl rfl rfl) ?_
      refine gg_st (go_iload 4 d_X10_reachAll_29 rfl rfl) ?_
      refine gs_I (k_X11_endCode l w v4 g) cs_X10_33 (Nat.le_of_ble_eq_true rfl) rfl rfl (Nat.le_of_ble_eq_true rfl) d_X10_reachAll_31 rfl (fun x6 => ?_)
      refine gv_I (k_X4_wireOf l w hb x6 g) cv_X10_37 (sC_st39_43_47_51_77_0 hb) (Nat.le_of_ble_eq_true rfl) rfl rfl (Nat.le_of_ble_eq_true rfl) d_X10_reachAll_34 rfl (fun x7 => ?_)
      refine gv_V (k_X10_reach l w ha x7 g) cv_X10_40 (sC_st56_59_0 ha) (Nat.le_of_ble_eq_true rfl) rfl rfl (Nat.le_of_ble_eq_true rfl) d_X10_reachAll_37 rfl (fun s8 => ?_)
      refine gg_bind 73 (fun (t17 : Int32 × St) => [some (.ref a), some (.ref b), some (.ref (65)), some (.int t17.1), some (.int v4)]) (fun (t17 : Int32 × St) => []) (fun (t17 : Int32 × St) => t17.2) (g_f_X10_reachAll_L40 l w F ha hb v4 F v3 s8) (fun t17 => ?_)
      refine gg_st (go_iinc 4 d_X10_reachAll_73 rfl (v := v4 + (1 : Int32)) (by rw [ci_1]) (by decide) (L' := [some (.ref a), some (.ref b), some (.ref (65)), some (.int t17.1), some (.int (v4 + (1 : Int32)))]) rfl rfl) ?_
      refine gg_st (go_goto (pc' := 18) d_X10_reachAll_76 (by decide)) ?_
      exact ih t17.1 (v4 + (1 : Int32)) t17.2
    · refine gg_st (go_fg [none, none, none, none, none] trivial) ?_
      exact gg_end rfl
set_option maxRecDepth 20000 in
theorem k_X10_reachAll (l : Launch) (w : Wo) (F : Nat) {a : Nat} (ha : a ∈ st56_59) {b : Nat} (hb : b ∈ st39_43_47_51_77) (σ : St) : K l w shC m_X10_reachAll 4 [.ref a, .ref b, .ref (65)] σ (f_X10_reachAll F a b σ) (rV) := by
  refine k_of (L := [some (.ref a), some (.ref b), some (.ref (65)), none, none]) (plainFor_of_name (by decide +kernel)) 2 rfl (Nat.le_of_ble_eq_true rfl) ?_
  unfold f_X10_reachAll
  refine gg_st (go_aload_n 0 d_X10_reachAll_0 rfl rfl rfl) ?_
  refine gg_st (go_getR (j := 1) cf10 (sC_st56_59_0 ha) rfl (by decide) fl_X10_15 d_X10_reachAll_1 rfl) ?_
  refine gg_st (go_iconst d_X10_reachAll_4 ci_m1 rfl) ?_
  refine gs_V (k_J7_fill_53178 l w F (sC_st56_59_2 ha) (-1 : Int32) σ) cs_X10_18 (Nat.le_of_ble_eq_true rfl) rfl rfl (Nat.le_of_ble_eq_true rfl) d_X10_reachAll_5 rfl (fun s1 => ?_)
  refine gg_st (go_aload_n 0 d_X10_reachAll_8 rfl rfl rfl) ?_
  refine gg_st (go_iconst d_X10_reachAll_9 ci_0 rfl) ?_
  refine gg_st (go_putI (j := 2) cf10 (sC_st56_59_0 ha) rfl (by decide) rfl rfl fl_X10_24 d_X10_reachAll_10 rfl) ?_
  refine gg_som (fun s2 => ?_)
  refine gg_st (go_iconst d_X10_reachAll_13 ci_0 rfl) ?_
  refine gg_st (go_istore_n 3 d_X10_reachAll_14 rfl (by decide) (L' := [some (.ref a), some (.ref b), some (.ref (65)), some (.int (0 : Int32)), none]) rfl rfl) ?_
  refine gg_st (go_iconst d_X10_reachAll_15 ci_0 rfl) ?_
  refine gg_st (go_istore 4 d_X10_reachAll_16 (by decide) (L' := [some (.ref a), some (.ref b), some (.ref (65)), some (.int (0 : Int32)), some (.int (0 : Int32))]) rfl rfl) ?_
  refine gg_bind 79 (fun (t18 : St) => [none, none, none, none, none]) (fun (t18 : St) => []) (fun (t18 : St) => t18) (g_f_X10_reachAll_L18 l w F ha hb F (0 : Int32) (0 : Int32) s2) (fun t18 => ?_)
  exact gg_vret rfl d_X10_reachAll_79 rfl
def f_X11_agent (p1 : Int32) (σ : St) : Option (Int32) :=
  Option.bind (f_X4_has p1 σ) fun x1 =>
  if x1 = 0 then (
    some (-1001 : Int32))
  else (
    Option.bind (f_X4_kindOf (77) p1 σ) fun x3 =>
    some x3)
set_option maxRecDepth 20000 in
theorem k_X11_agent (l : Launch) (w : Wo) (p1 : Int32) (σ : St) : K l w shC m_X11_agent 3 [.ref (0), .int p1] σ (f_X11_agent p1 σ) (rI σ) := by
  refine k_of (L := [some (.ref (0)), some (.int p1)]) (plainFor_of_name (by decide +kernel)) 0 rfl (Nat.le_of_ble_eq_true rfl) ?_
  unfold f_X11_agent
  refine gg_st (go_aload_n 0 d_X11_agent_0 rfl rfl rfl) ?_
  refine gg_st (go_getR (j := 8) cf11 sC_0 rfl (by decide) fl_X11_61 d_X11_agent_1 rfl) ?_
  refine gg_st (go_getR (j := 2) cf0 sC_64 rfl (by decide) fl_X11_92 d_X11_agent_4 rfl) ?_
  refine gg_st (go_iload_n 1 d_X11_agent_7 rfl rfl rfl) ?_
  refine gv_I (k_X4_has l w p1 σ) cv_X11_174 sC_77 (Nat.le_of_ble_eq_true rfl) rfl rfl (Nat.le_of_ble_eq_true rfl) d_X11_agent_8 rfl (fun x1 => ?_)
  refine gg_br (br_if_eq (tgt := 28) (pc' := 14) d_X11_agent_11 (by decide) rfl) (fun h2 => ?_) (fun h2 => ?_)
  · refine gg_st (go_sipush d_X11_agent_28 cs_m1001 rfl) ?_
    exact gg_iret rfl d_X11_agent_31 rfl
  · refine gg_st (go_aload_n 0 d_X11_agent_14 rfl rfl rfl) ?_
    refine gg_st (go_getR (j := 8) cf11 sC_0 rfl (by decide) fl_X11_61 d_X11_agent_15 rfl) ?_
    refine gg_st (go_getR (j := 2) cf0 sC_64 rfl (by decide) fl_X11_92 d_X11_agent_18 rfl) ?_
    refine gg_st (go_iload_n 1 d_X11_agent_21 rfl rfl rfl) ?_
    refine gv_I (k_X4_kindOf l w (show 77 ∈ st39_43_47_51_77 by decide) p1 σ) cv_X11_175 sC_77 (Nat.le_of_ble_eq_true rfl) rfl rfl (Nat.le_of_ble_eq_true rfl) d_X11_agent_22 rfl (fun x3 => ?_)
    refine gg_st (go_goto (pc' := 31) d_X11_agent_25 (by decide)) ?_
    exact gg_iret rfl d_X11_agent_31 rfl
def f_X11_shelfAt (p1 : Int32) : Option (Option Nat) :=
  Option.bind (some (f_X11_isInside p1 (4 : Int32))) fun x1 =>
  if x1 = 0 then (
    some none)
  else (
    if inb p1 4 then (
      some (some (35 + 4 + 4 * ix p1)))
    else none)
set_option maxRecDepth 20000 in
theorem k_X11_shelfAt (l : Launch) (w : Wo) (p1 : Int32) (σ : St) : K l w shC m_X11_shelfAt 2 [.ref (0), .int p1] σ (f_X11_shelfAt p1) (rA σ) := by
  refine k_of (L := [some (.ref (0)), some (.int p1)]) (plainFor_of_name (by decide +kernel)) 0 rfl (Nat.le_of_ble_eq_true rfl) ?_
  unfold f_X11_shelfAt
  refine gg_st (go_iload_n 1 d_X11_shelfAt_0 rfl rfl rfl) ?_
  refine gg_st (go_aload_n 0 d_X11_shelfAt_1 rfl rfl rfl) ?_
  refine gg_st (go_getR (j := 3) cf11 sC_0 rfl (by decide) fl_X11_32 d_X11_shelfAt_2 rfl) ?_
  refine gg_st (go_alenR sC_38 (v := (4 : Int32)) (by decide) d_X11_shelfAt_5 rfl) ?_
  refine gs_I (k_X11_isInside l w p1 (4 : Int32) σ) cs_X11_235 (Nat.le_of_ble_eq_true rfl) rfl rfl (Nat.le_of_ble_eq_true rfl) d_X11_shelfAt_6 rfl (fun x1 => ?_)
  refine gg_br (br_if_eq (tgt := 21) (pc' := 12) d_X11_shelfAt_9 (by decide) rfl) (fun h3 => ?_) (fun h3 => ?_)
  · refine gg_st (go_null d_X11_shelfAt_21 rfl) ?_
    exact gg_aret rfl (Or.inl rfl) d_X11_shelfAt_22 rfl
  · refine gg_st (go_aload_n 0 d_X11_shelfAt_12 rfl rfl rfl) ?_
    refine gg_st (go_getR (j := 3) cf11 sC_0 rfl (by decide) fl_X11_32 d_X11_shelfAt_13 rfl) ?_
    refine gg_st (go_iload_n 1 d_X11_shelfAt_16 rfl rfl rfl) ?_
    refine gg_gd (fun h4 => ?_)
    refine gg_st (go_aald (b := 35) sC_38 h4 d_X11_shelfAt_17 rfl) ?_
    refine gg_st (go_goto (pc' := 22) d_X11_shelfAt_18 (by decide)) ?_
    exact gg_aret rfl (Or.inr ⟨_, rfl⟩) d_X11_shelfAt_22 rfl
set_option maxRecDepth 20000 in
theorem shelf_mem {p1 : Int32} {b : Nat} (h : f_X11_shelfAt p1 = some (some b)) : b ∈ st39_43_47_51 := by
  unfold f_X11_shelfAt at h
  rw [Option.bind_some] at h
  split at h
  · cases h
  · split at h
    · rename_i hi
      simp only [inb, Bool.and_eq_true, decide_eq_true_eq] at hi
      have h4 : ix p1 < 4 := hi.2
      have e : 35 + 4 + 4 * ix p1 = b := by
        injection h with h
        injection h
      have : b = 39 ∨ b = 43 ∨ b = 47 ∨ b = 51 := by omega
      rcases this with rfl | rfl | rfl | rfl <;> decide
    · cases h
def f_X4_copyFrom (a : Nat) (b : Nat) (σ : St) : Option (St) :=
  Option.bind (some (setr σ (a + 1) (va_cpy (σ.1 (b + 1)) (σ.1 (a + 1)) (ix (0 : Int32)) (ix (0 : Int32)) (ix (400 : Int32))))) fun s1 =>
  Option.bind (some (setr s1 (a + 2) (va_cpy (s1.1 (b + 2)) (s1.1 (a + 2)) (ix (0 : Int32)) (ix (0 : Int32)) (ix (3200 : Int32))))) fun s2 =>
  Option.bind (some (setr s2 (a + 3) (va_cpy (s2.1 (b + 3)) (s2.1 (a + 3)) (ix (0 : Int32)) (ix (0 : Int32)) (ix (8 : Int32))))) fun s3 =>
  Option.bind (some (seti s3 a 3 (s3.1 b 3))) fun s4 =>
  Option.bind (some (seti s4 a 4 (s4.1 b 4))) fun s5 =>
  Option.bind (some (seti s5 a 5 (s5.1 b 5))) fun s6 =>
  Option.bind (some (seti s6 a 6 (s6.1 b 6))) fun s7 =>
  some s7
set_option maxRecDepth 20000 in
theorem k_X4_copyFrom (l : Launch) (w : Wo) {a : Nat} (ha : a ∈ st39_43_47_51_77) {b : Nat} (hb : b ∈ st39_43_47_51_77) (σ : St) : K l w shC m_X4_copyFrom 1 [.ref a, .ref b] σ (f_X4_copyFrom a b σ) (rV) := by
  refine k_of (L := [some (.ref a), some (.ref b)]) (plainFor_of_name (by decide +kernel)) 0 rfl (Nat.le_of_ble_eq_true rfl) ?_
  unfold f_X4_copyFrom
  refine gg_st (go_aload_n 1 d_X4_copyFrom_0 rfl rfl rfl) ?_
  refine gg_st (go_getR (j := 0) cf4 (sC_st39_43_47_51_77_0 hb) rfl (by decide) fl_X4_9 d_X4_copyFrom_1 rfl) ?_
  refine gg_st (go_iconst d_X4_copyFrom_4 ci_0 rfl) ?_
  refine gg_st (go_aload_n 0 d_X4_copyFrom_5 rfl rfl rfl) ?_
  refine gg_st (go_getR (j := 0) cf4 (sC_st39_43_47_51_77_0 ha) rfl (by decide) fl_X4_9 d_X4_copyFrom_6 rfl) ?_
  refine gg_st (go_iconst d_X4_copyFrom_9 ci_0 rfl) ?_
  refine gg_st (go_sipush d_X4_copyFrom_10 cs_400 rfl) ?_
  refine gg_st (go_copy (sC_st39_43_47_51_77_1 hb) (sC_st39_43_47_51_77_1 ha) (by decide) (by decide) (by decide) (by decide) (by decide) (by decide) rfl ml_X4_40 d_X4_copyFrom_13 rfl) ?_
  refine gg_som (fun s1 => ?_)
  refine gg_st (go_aload_n 1 d_X4_copyFrom_16 rfl rfl rfl) ?_
  refine gg_st (go_getR (j := 1) cf4 (sC_st39_43_47_51_77_0 hb) rfl (by decide) fl_X4_15 d_X4_copyFrom_17 rfl) ?_
  refine gg_st (go_iconst d_X4_copyFrom_20 ci_0 rfl) ?_
  refine gg_st (go_aload_n 0 d_X4_copyFrom_21 rfl rfl rfl) ?_
  refine gg_st (go_getR (j := 1) cf4 (sC_st39_43_47_51_77_0 ha) rfl (by decide) fl_X4_15 d_X4_copyFrom_22 rfl) ?_
  refine gg_st (go_iconst d_X4_copyFrom_25 ci_0 rfl) ?_
  refine gg_st (go_sipush d_X4_copyFrom_26 cs_3200 rfl) ?_
  refine gg_st (go_copy (sC_st39_43_47_51_77_2 hb) (sC_st39_43_47_51_77_2 ha) (by decide) (by decide) (by decide) (by decide) (by decide) (by decide) rfl ml_X4_40 d_X4_copyFrom_29 rfl) ?_
  refine gg_som (fun s2 => ?_)
  refine gg_st (go_aload_n 1 d_X4_copyFrom_32 rfl rfl rfl) ?_
  refine gg_st (go_getR (j := 2) cf4 (sC_st39_43_47_51_77_0 hb) rfl (by decide) fl_X4_18 d_X4_copyFrom_33 rfl) ?_
  refine gg_st (go_iconst d_X4_copyFrom_36 ci_0 rfl) ?_
  refine gg_st (go_aload_n 0 d_X4_copyFrom_37 rfl rfl rfl) ?_
  refine gg_st (go_getR (j := 2) cf4 (sC_st39_43_47_51_77_0 ha) rfl (by decide) fl_X4_18 d_X4_copyFrom_38 rfl) ?_
  refine gg_st (go_iconst d_X4_copyFrom_41 ci_0 rfl) ?_
  refine gg_st (go_bipush d_X4_copyFrom_42 cb_8 rfl) ?_
  refine gg_st (go_copy (sC_st39_43_47_51_77_3 hb) (sC_st39_43_47_51_77_3 ha) (by decide) (by decide) (by decide) (by decide) (by decide) (by decide) rfl ml_X4_40 d_X4_copyFrom_44 rfl) ?_
  refine gg_som (fun s3 => ?_)
  refine gg_st (go_aload_n 0 d_X4_copyFrom_47 rfl rfl rfl) ?_
  refine gg_st (go_aload_n 1 d_X4_copyFrom_48 rfl rfl rfl) ?_
  refine gg_st (go_getI (j := 3) cf4 (sC_st39_43_47_51_77_0 hb) rfl (by decide) fl_X4_27 d_X4_copyFrom_49 rfl) ?_
  refine gg_st (go_putI (j := 3) cf4 (sC_st39_43_47_51_77_0 ha) rfl (by decide) rfl rfl fl_X4_27 d_X4_copyFrom_52 rfl) ?_
  refine gg_som (fun s4 => ?_)
  refine gg_st (go_aload_n 0 d_X4_copyFrom_55 rfl rfl rfl) ?_
  refine gg_st (go_aload_n 1 d_X4_copyFrom_56 rfl rfl rfl) ?_
  refine gg_st (go_getI (j := 4) cf4 (sC_st39_43_47_51_77_0 hb) rfl (by decide) fl_X4_31 d_X4_copyFrom_57 rfl) ?_
  refine gg_st (go_putI (j := 4) cf4 (sC_st39_43_47_51_77_0 ha) rfl (by decide) rfl rfl fl_X4_31 d_X4_copyFrom_60 rfl) ?_
  refine gg_som (fun s5 => ?_)
  refine gg_st (go_aload_n 0 d_X4_copyFrom_63 rfl rfl rfl) ?_
  refine gg_st (go_aload_n 1 d_X4_copyFrom_64 rfl rfl rfl) ?_
  refine gg_st (go_getI (j := 5) cf4 (sC_st39_43_47_51_77_0 hb) rfl (by decide) fl_X4_34 d_X4_copyFrom_65 rfl) ?_
  refine gg_st (go_putI (j := 5) cf4 (sC_st39_43_47_51_77_0 ha) rfl (by decide) rfl rfl fl_X4_34 d_X4_copyFrom_68 rfl) ?_
  refine gg_som (fun s6 => ?_)
  refine gg_st (go_aload_n 0 d_X4_copyFrom_71 rfl rfl rfl) ?_
  refine gg_st (go_aload_n 1 d_X4_copyFrom_72 rfl rfl rfl) ?_
  refine gg_st (go_getI (j := 6) cf4 (sC_st39_43_47_51_77_0 hb) rfl (by decide) fl_X4_37 d_X4_copyFrom_73 rfl) ?_
  refine gg_st (go_putI (j := 6) cf4 (sC_st39_43_47_51_77_0 ha) rfl (by decide) rfl rfl fl_X4_37 d_X4_copyFrom_76 rfl) ?_
  refine gg_som (fun s7 => ?_)
  exact gg_vret rfl d_X4_copyFrom_79 rfl
def f_X11_back (p1 : Int32) (σ : St) : Option (Int32 × St) :=
  Option.bind (f_X11_shelfAt p1) fun x1 =>
  match x1 with
  | none => (
    some ((-1001 : Int32), σ))
  | some b2 => (
    if (σ.1 b2 7) = 0 then (
      some ((-1003 : Int32), σ))
    else (
      Option.bind (f_X4_copyFrom (77) b2 σ) fun s4 =>
      some (s4.1 b2 3, s4)))
set_option maxRecDepth 20000 in
theorem k_X11_back (l : Launch) (w : Wo) (p1 : Int32) (σ : St) : K l w shC m_X11_back 3 [.ref (0), .int p1] σ (f_X11_back p1 σ) (rIS) := by
  refine k_of (L := [some (.ref (0)), some (.int p1), none]) (plainFor_of_name (by decide +kernel)) 1 rfl (Nat.le_of_ble_eq_true rfl) ?_
  unfold f_X11_back
  refine gg_st (go_aload_n 0 d_X11_back_0 rfl rfl rfl) ?_
  refine gg_st (go_iload_n 1 d_X11_back_1 rfl rfl rfl) ?_
  refine gv_AX (k_X11_shelfAt l w p1 σ) cv_X11_208 sC_0 (Nat.le_of_ble_eq_true rfl) rfl rfl (Nat.le_of_ble_eq_true rfl) d_X11_back_2 rfl ?_ (fun b2 b2q => ?_)
  · refine gg_st (go_astore_nN 2 d_X11_back_5 rfl (by decide) (L' := [some (.ref (0)), some (.int p1), some (.null)]) rfl rfl) ?_
    refine gg_st (go_aload_nN 2 d_X11_back_6 rfl rfl rfl) ?_
    refine gg_st (go_ifnonnullN d_X11_back_7 rfl) ?_
    refine gg_st (go_sipush d_X11_back_10 cs_m1001 rfl) ?_
    exact gg_iret rfl d_X11_back_13 rfl
  · have hb2 := shelf_mem b2q
    refine gg_st (go_astore_n 2 d_X11_back_5 rfl (by decide) (L' := [some (.ref (0)), some (.int p1), some (.ref b2)]) rfl rfl) ?_
    refine gg_st (go_aload_n 2 d_X11_back_6 rfl rfl rfl) ?_
    refine gg_st (go_ifnonnull (pc' := 14) d_X11_back_7 (by decide)) ?_
    refine gg_st (go_aload_n 2 d_X11_back_14 rfl rfl rfl) ?_
    refine gg_st (go_getI (j := 7) cf4 (sC_st39_43_47_51_0 hb2) rfl (by decide) fl_X11_216 d_X11_back_15 rfl) ?_
    refine gg_br (br_if_ne (tgt := 25) (pc' := 21) d_X11_back_18 (by decide) rfl) (fun h3 => ?_) (fun h3 => ?_)
    · refine gg_st (go_sipush d_X11_back_21 cs_m1003 rfl) ?_
      exact gg_iret rfl d_X11_back_24 rfl
    · refine gg_st (go_aload_n 0 d_X11_back_25 rfl rfl rfl) ?_
      refine gg_st (go_getR (j := 8) cf11 sC_0 rfl (by decide) fl_X11_61 d_X11_back_26 rfl) ?_
      refine gg_st (go_getR (j := 2) cf0 sC_64 rfl (by decide) fl_X11_92 d_X11_back_29 rfl) ?_
      refine gg_st (go_aload_n 2 d_X11_back_32 rfl rfl rfl) ?_
      refine gv_V (k_X4_copyFrom l w (show 77 ∈ st39_43_47_51_77 by decide) (sub_st39_43_47_51_st39_43_47_51_77 _ hb2) σ) cv_X11_212 sC_77 (Nat.le_of_ble_eq_true rfl) rfl rfl (Nat.le_of_ble_eq_true rfl) d_X11_back_33 rfl (fun s4 => ?_)
      refine gg_st (go_aload_n 2 d_X11_back_36 rfl rfl rfl) ?_
      refine gg_st (go_getI (j := 3) cf4 (sC_st39_43_47_51_0 hb2) rfl (by decide) fl_X11_96 d_X11_back_37 rfl) ?_
      exact gg_iret rfl d_X11_back_40 rfl
def f_X11_choosePair (F : Nat) (p1 : Int32) (σ : St) : Option (Int32 × St) :=
  if p1 = 0 then (
    Option.bind (f_X0_alivePairAt F (0 : Int32) σ) fun x2 =>
    some (x2, σ))
  else (
    if p1 = (1 : Int32) then (
      Option.bind (f_X0_greatestAlivePair F σ) fun x4 =>
      some (x4, σ))
    else (
      Option.bind (f_X0_countPairs F (1 : Int32) σ) fun x5 =>
      if x5 ≤ 0 then (
        some ((-1 : Int32), σ))
      else (
        Option.bind (some (setl σ (0) 9 (((σ.2 (0) 9) * (6364136223846793005 : Int64)) + (1442695040888963407 : Int64)))) fun s8 =>
        if ¬ x5.toInt64 = 0 then (
          Option.bind (f_X0_alivePairAt F (((((s8.2 (0) 9).toUInt64 >>> ((33 : Int32).toInt64.toUInt64 &&& Int64.toUInt64 63)).toInt64) - (((s8.2 (0) 9).toUInt64 >>> ((33 : Int32).toInt64.toUInt64 &&& Int64.toUInt64 63)).toInt64) / (x5.toInt64) * (x5.toInt64)).toInt32) s8) fun x10 =>
          some (x10, s8))
        else none)))
set_option maxRecDepth 20000 in
theorem k_X11_choosePair (l : Launch) (w : Wo) (F : Nat) (p1 : Int32) (σ : St) : K l w shC m_X11_choosePair 6 [.ref (0), .int p1] σ (f_X11_choosePair F p1 σ) (rIS) := by
  refine k_of (L := [some (.ref (0)), some (.int p1), none]) (plainFor_of_name (by decide +kernel)) 1 rfl (Nat.le_of_ble_eq_true rfl) ?_
  unfold f_X11_choosePair
  refine gg_st (go_iload_n 1 d_X11_choosePair_0 rfl rfl rfl) ?_
  refine gg_br (br_if_ne (tgt := 13) (pc' := 4) d_X11_choosePair_1 (by decide) rfl) (fun h1 => ?_) (fun h1 => ?_)
  · refine gg_st (go_aload_n 0 d_X11_choosePair_4 rfl rfl rfl) ?_
    refine gg_st (go_getR (j := 8) cf11 sC_0 rfl (by decide) fl_X11_61 d_X11_choosePair_5 rfl) ?_
    refine gg_st (go_iconst d_X11_choosePair_8 ci_0 rfl) ?_
    refine gv_I (k_X0_alivePairAt l w F (0 : Int32) σ) cv_X11_190 sC_64 (Nat.le_of_ble_eq_true rfl) rfl rfl (Nat.le_of_ble_eq_true rfl) d_X11_choosePair_9 rfl (fun x2 => ?_)
    exact gg_iret rfl d_X11_choosePair_12 rfl
  · refine gg_st (go_iload_n 1 d_X11_choosePair_13 rfl rfl rfl) ?_
    refine gg_st (go_iconst d_X11_choosePair_14 ci_1 rfl) ?_
    refine gg_br (br_icmp_ne (tgt := 26) (pc' := 18) d_X11_choosePair_15 (by decide) rfl) (fun h3 => ?_) (fun h3 => ?_)
    · refine gg_st (go_aload_n 0 d_X11_choosePair_18 rfl rfl rfl) ?_
      refine gg_st (go_getR (j := 8) cf11 sC_0 rfl (by decide) fl_X11_61 d_X11_choosePair_19 rfl) ?_
      refine gv_I (k_X0_greatestAlivePair l w F  σ) cv_X11_263 sC_64 (Nat.le_of_ble_eq_true rfl) rfl rfl (Nat.le_of_ble_eq_true rfl) d_X11_choosePair_22 rfl (fun x4 => ?_)
      exact gg_iret rfl d_X11_choosePair_25 rfl
    · refine gg_st (go_aload_n 0 d_X11_choosePair_26 rfl rfl rfl) ?_
      refine gg_st (go_getR (j := 8) cf11 sC_0 rfl (by decide) fl_X11_61 d_X11_choosePair_27 rfl) ?_
      refine gg_st (go_iconst d_X11_choosePair_30 ci_1 rfl) ?_
      refine gv_I (k_X0_countPairs l w F (1 : Int32) σ) cv_X11_128 sC_64 (Nat.le_of_ble_eq_true rfl) rfl rfl (Nat.le_of_ble_eq_true rfl) d_X11_choosePair_31 rfl (fun x5 => ?_)
      refine gg_st (go_istore_n 2 d_X11_choosePair_34 rfl (by decide) (L' := [some (.ref (0)), some (.int p1), some (.int x5)]) rfl rfl) ?_
      refine gg_st (go_iload_n 2 d_X11_choosePair_35 rfl rfl rfl) ?_
      refine gg_br (br_if_gt (tgt := 41) (pc' := 39) d_X11_choosePair_36 (by decide) rfl) (fun h7 => ?_) (fun h7 => ?_)
      · refine gg_st (go_iconst d_X11_choosePair_39 ci_m1 rfl) ?_
        exact gg_iret rfl d_X11_choosePair_40 rfl
      · refine gg_st (go_aload_n 0 d_X11_choosePair_41 rfl rfl rfl) ?_
        refine gg_st (go_aload_n 0 d_X11_choosePair_42 rfl rfl rfl) ?_
        refine gg_st (go_getL (j := 9) cf11 sC_0 rfl (by decide) fl_X11_65 d_X11_choosePair_43 rfl) ?_
        refine gg_st (go_ldc2 ll_X11_266 d_X11_choosePair_46 rfl) ?_
        refine gg_st (go_lmul d_X11_choosePair_49 rfl) ?_
        refine gg_st (go_ldc2 ll_X11_268 d_X11_choosePair_50 rfl) ?_
        refine gg_st (go_ladd d_X11_choosePair_53 rfl) ?_
        refine gg_st (go_putL (j := 9) cf11 sC_0 rfl (by decide) rfl rfl fl_X11_65 d_X11_choosePair_54 rfl) ?_
        refine gg_som (fun s8 => ?_)
        refine gg_st (go_aload_n 0 d_X11_choosePair_57 rfl rfl rfl) ?_
        refine gg_st (go_getR (j := 8) cf11 sC_0 rfl (by decide) fl_X11_61 d_X11_choosePair_58 rfl) ?_
        refine gg_st (go_aload_n 0 d_X11_choosePair_61 rfl rfl rfl) ?_
        refine gg_st (go_getL (j := 9) cf11 sC_0 rfl (by decide) fl_X11_65 d_X11_choosePair_62 rfl) ?_
        refine gg_st (go_bipush d_X11_choosePair_65 cb_33 rfl) ?_
        refine gg_st (go_lushr d_X11_choosePair_67 rfl) ?_
        refine gg_st (go_iload_n 2 d_X11_choosePair_68 rfl rfl rfl) ?_
        refine gg_st (go_i2l d_X11_choosePair_69 rfl) ?_
        refine gg_gd (fun h9 => ?_)
        refine gg_st (go_lrem d_X11_choosePair_70 h9 rfl) ?_
        refine gg_st (go_l2i d_X11_choosePair_71 rfl) ?_
        refine gv_I (k_X0_alivePairAt l w F (((((s8.2 (0) 9).toUInt64 >>> ((33 : Int32).toInt64.toUInt64 &&& Int64.toUInt64 63)).toInt64) - (((s8.2 (0) 9).toUInt64 >>> ((33 : Int32).toInt64.toUInt64 &&& Int64.toUInt64 63)).toInt64) / (x5.toInt64) * (x5.toInt64)).toInt32) s8) cv_X11_190 sC_64 (Nat.le_of_ble_eq_true rfl) rfl rfl (Nat.le_of_ble_eq_true rfl) d_X11_choosePair_72 rfl (fun x10 => ?_)
        exact gg_iret rfl d_X11_choosePair_75 rfl
def f_X11_count (F : Nat) (p1 : Int32) (σ : St) : Option (Int32 × St) :=
  if p1 = 0 then (
    some (σ.1 (65) 3, σ))
  else (
    if p1 = 1 then (
      some (σ.1 (69) 7, σ))
    else (
      if p1 = 2 then (
        some (σ.1 (77) 3, σ))
      else (
        if p1 = 3 then (
          some (σ.1 (77) 4, σ))
        else (
          if p1 = 4 then (
            some (σ.1 (77) 5, σ))
          else (
            if p1 = 5 then (
              Option.bind (f_X0_countPairs F (1 : Int32) σ) fun x1 =>
              some (x1, σ))
            else (
              if p1 = 6 then (
                Option.bind (f_X0_countPairs F (0 : Int32) σ) fun x2 =>
                some (x2, σ))
              else (
                if p1 = 7 then (
                  Option.bind (f_X10_countCircles F σ) fun x3 =>
                  some (x3.1, x3.2))
                else (
                  if p1 = 8 then (
                    some (σ.1 (36) 1, σ))
                  else (
                    if p1 = 9 then (
                      some (σ.1 (36) 2, σ))
                    else (
                      if p1 = 10 then (
                        some (σ.1 (36) 3, σ))
                      else (
                        if p1 = 11 then (
                          if (σ.1 (36) 4) = 0 then (
                            some ((0 : Int32), σ))
                          else (
                            some ((1 : Int32), σ)))
                        else (
                          if p1 = 12 then (
                            some (σ.1 (62) 1, σ))
                          else (
                            some ((-1002 : Int32), σ))))))))))))))
set_option maxRecDepth 20000 in
theorem k_X11_count (l : Launch) (w : Wo) (F : Nat) (p1 : Int32) (σ : St) : K l w shC m_X11_count 6 [.ref (0), .int p1] σ (f_X11_count F p1 σ) (rIS) := by
  refine k_of (L := [some (.ref (0)), some (.int p1)]) (plainFor_of_name (by decide +kernel)) 0 rfl (Nat.le_of_ble_eq_true rfl) ?_
  unfold f_X11_count
  refine gg_st (go_iload_n 1 d_X11_count_0 rfl rfl rfl) ?_
  refine gg_ite (fun h1_0 => ?_) (fun h1_0 => ?_)
  · refine gg_st (go_tableIn (pc' := 68) (by rw [h1_0]; decide) (by rw [h1_0]; decide) (by rw [h1_0]; rfl) (by decide) d_X11_count_1) ?_
    refine gg_st (go_aload_n 0 d_X11_count_68 rfl rfl rfl) ?_
    refine gg_st (go_getR (j := 8) cf11 sC_0 rfl (by decide) fl_X11_61 d_X11_count_69 rfl) ?_
    refine gg_st (go_getR (j := 0) cf0 sC_64 rfl (by decide) fl_X11_108 d_X11_count_72 rfl) ?_
    refine gg_st (go_getI (j := 3) cf3 sC_65 rfl (by decide) fl_X11_112 d_X11_count_75 rfl) ?_
    exact gg_iret rfl d_X11_count_78 rfl
  · refine gg_ite (fun h1_1 => ?_) (fun h1_1 => ?_)
    · refine gg_st (go_tableIn (pc' := 79) (by rw [h1_1]; decide) (by rw [h1_1]; decide) (by rw [h1_1]; rfl) (by decide) d_X11_count_1) ?_
      refine gg_st (go_aload_n 0 d_X11_count_79 rfl rfl rfl) ?_
      refine gg_st (go_getR (j := 8) cf11 sC_0 rfl (by decide) fl_X11_61 d_X11_count_80 rfl) ?_
      refine gg_st (go_getR (j := 1) cf0 sC_64 rfl (by decide) fl_X11_115 d_X11_count_83 rfl) ?_
      refine gg_st (go_getI (j := 7) cf8 sC_69 rfl (by decide) fl_X11_119 d_X11_count_86 rfl) ?_
      exact gg_iret rfl d_X11_count_89 rfl
    · refine gg_ite (fun h1_2 => ?_) (fun h1_2 => ?_)
      · refine gg_st (go_tableIn (pc' := 90) (by rw [h1_2]; decide) (by rw [h1_2]; decide) (by rw [h1_2]; rfl) (by decide) d_X11_count_1) ?_
        refine gg_st (go_aload_n 0 d_X11_count_90 rfl rfl rfl) ?_
        refine gg_st (go_getR (j := 8) cf11 sC_0 rfl (by decide) fl_X11_61 d_X11_count_91 rfl) ?_
        refine gg_st (go_getR (j := 2) cf0 sC_64 rfl (by decide) fl_X11_92 d_X11_count_94 rfl) ?_
        refine gg_st (go_getI (j := 3) cf4 sC_77 rfl (by decide) fl_X11_96 d_X11_count_97 rfl) ?_
        exact gg_iret rfl d_X11_count_100 rfl
      · refine gg_ite (fun h1_3 => ?_) (fun h1_3 => ?_)
        · refine gg_st (go_tableIn (pc' := 101) (by rw [h1_3]; decide) (by rw [h1_3]; decide) (by rw [h1_3]; rfl) (by decide) d_X11_count_1) ?_
          refine gg_st (go_aload_n 0 d_X11_count_101 rfl rfl rfl) ?_
          refine gg_st (go_getR (j := 8) cf11 sC_0 rfl (by decide) fl_X11_61 d_X11_count_102 rfl) ?_
          refine gg_st (go_getR (j := 2) cf0 sC_64 rfl (by decide) fl_X11_92 d_X11_count_105 rfl) ?_
          refine gg_st (go_getI (j := 4) cf4 sC_77 rfl (by decide) fl_X11_122 d_X11_count_108 rfl) ?_
          exact gg_iret rfl d_X11_count_111 rfl
        · refine gg_ite (fun h1_4 => ?_) (fun h1_4 => ?_)
          · refine gg_st (go_tableIn (pc' := 112) (by rw [h1_4]; decide) (by rw [h1_4]; decide) (by rw [h1_4]; rfl) (by decide) d_X11_count_1) ?_
            refine gg_st (go_aload_n 0 d_X11_count_112 rfl rfl rfl) ?_
            refine gg_st (go_getR (j := 8) cf11 sC_0 rfl (by decide) fl_X11_61 d_X11_count_113 rfl) ?_
            refine gg_st (go_getR (j := 2) cf0 sC_64 rfl (by decide) fl_X11_92 d_X11_count_116 rfl) ?_
            refine gg_st (go_getI (j := 5) cf4 sC_77 rfl (by decide) fl_X11_125 d_X11_count_119 rfl) ?_
            exact gg_iret rfl d_X11_count_122 rfl
          · refine gg_ite (fun h1_5 => ?_) (fun h1_5 => ?_)
            · refine gg_st (go_tableIn (pc' := 123) (by rw [h1_5]; decide) (by rw [h1_5]; decide) (by rw [h1_5]; rfl) (by decide) d_X11_count_1) ?_
              refine gg_st (go_aload_n 0 d_X11_count_123 rfl rfl rfl) ?_
              refine gg_st (go_getR (j := 8) cf11 sC_0 rfl (by decide) fl_X11_61 d_X11_count_124 rfl) ?_
              refine gg_st (go_iconst d_X11_count_127 ci_1 rfl) ?_
              refine gv_I (k_X0_countPairs l w F (1 : Int32) σ) cv_X11_128 sC_64 (Nat.le_of_ble_eq_true rfl) rfl rfl (Nat.le_of_ble_eq_true rfl) d_X11_count_128 rfl (fun x1 => ?_)
              exact gg_iret rfl d_X11_count_131 rfl
            · refine gg_ite (fun h1_6 => ?_) (fun h1_6 => ?_)
              · refine gg_st (go_tableIn (pc' := 132) (by rw [h1_6]; decide) (by rw [h1_6]; decide) (by rw [h1_6]; rfl) (by decide) d_X11_count_1) ?_
                refine gg_st (go_aload_n 0 d_X11_count_132 rfl rfl rfl) ?_
                refine gg_st (go_getR (j := 8) cf11 sC_0 rfl (by decide) fl_X11_61 d_X11_count_133 rfl) ?_
                refine gg_st (go_iconst d_X11_count_136 ci_0 rfl) ?_
                refine gv_I (k_X0_countPairs l w F (0 : Int32) σ) cv_X11_128 sC_64 (Nat.le_of_ble_eq_true rfl) rfl rfl (Nat.le_of_ble_eq_true rfl) d_X11_count_137 rfl (fun x2 => ?_)
                exact gg_iret rfl d_X11_count_140 rfl
              · refine gg_ite (fun h1_7 => ?_) (fun h1_7 => ?_)
                · refine gg_st (go_tableIn (pc' := 141) (by rw [h1_7]; decide) (by rw [h1_7]; decide) (by rw [h1_7]; rfl) (by decide) d_X11_count_1) ?_
                  refine gg_st (go_aload_n 0 d_X11_count_141 rfl rfl rfl) ?_
                  refine gg_st (go_getR (j := 5) cf11 sC_0 rfl (by decide) fl_X11_44 d_X11_count_142 rfl) ?_
                  refine gg_st (go_aload_n 0 d_X11_count_145 rfl rfl rfl) ?_
                  refine gg_st (go_getR (j := 8) cf11 sC_0 rfl (by decide) fl_X11_61 d_X11_count_146 rfl) ?_
                  refine gg_st (go_getR (j := 2) cf0 sC_64 rfl (by decide) fl_X11_92 d_X11_count_149 rfl) ?_
                  refine gv_IS (k_X10_countCircles l w F  σ) cv_X11_132 sC_56 (Nat.le_of_ble_eq_true rfl) rfl rfl (Nat.le_of_ble_eq_true rfl) d_X11_count_152 rfl (fun x3 => ?_)
                  exact gg_iret rfl d_X11_count_155 rfl
                · refine gg_ite (fun h1_8 => ?_) (fun h1_8 => ?_)
                  · refine gg_st (go_tableIn (pc' := 156) (by rw [h1_8]; decide) (by rw [h1_8]; decide) (by rw [h1_8]; rfl) (by decide) d_X11_count_1) ?_
                    refine gg_st (go_aload_n 0 d_X11_count_156 rfl rfl rfl) ?_
                    refine gg_st (go_getR (j := 2) cf11 sC_0 rfl (by decide) fl_X11_26 d_X11_count_157 rfl) ?_
                    refine gg_st (go_getI (j := 1) cf2 sC_36 rfl (by decide) fl_X11_136 d_X11_count_160 rfl) ?_
                    exact gg_iret rfl d_X11_count_163 rfl
                  · refine gg_ite (fun h1_9 => ?_) (fun h1_9 => ?_)
                    · refine gg_st (go_tableIn (pc' := 164) (by rw [h1_9]; decide) (by rw [h1_9]; decide) (by rw [h1_9]; rfl) (by decide) d_X11_count_1) ?_
                      refine gg_st (go_aload_n 0 d_X11_count_164 rfl rfl rfl) ?_
                      refine gg_st (go_getR (j := 2) cf11 sC_0 rfl (by decide) fl_X11_26 d_X11_count_165 rfl) ?_
                      refine gg_st (go_getI (j := 2) cf2 sC_36 rfl (by decide) fl_X11_139 d_X11_count_168 rfl) ?_
                      exact gg_iret rfl d_X11_count_171 rfl
                    · refine gg_ite (fun h1_10 => ?_) (fun h1_10 => ?_)
                      · refine gg_st (go_tableIn (pc' := 172) (by rw [h1_10]; decide) (by rw [h1_10]; decide) (by rw [h1_10]; rfl) (by decide) d_X11_count_1) ?_
                        refine gg_st (go_aload_n 0 d_X11_count_172 rfl rfl rfl) ?_
                        refine gg_st (go_getR (j := 2) cf11 sC_0 rfl (by decide) fl_X11_26 d_X11_count_173 rfl) ?_
                        refine gg_st (go_getI (j := 3) cf2 sC_36 rfl (by decide) fl_X11_142 d_X11_count_176 rfl) ?_
                        exact gg_iret rfl d_X11_count_179 rfl
                      · refine gg_ite (fun h1_11 => ?_) (fun h1_11 => ?_)
                        · refine gg_st (go_tableIn (pc' := 180) (by rw [h1_11]; decide) (by rw [h1_11]; decide) (by rw [h1_11]; rfl) (by decide) d_X11_count_1) ?_
                          refine gg_st (go_aload_n 0 d_X11_count_180 rfl rfl rfl) ?_
                          refine gg_st (go_getR (j := 2) cf11 sC_0 rfl (by decide) fl_X11_26 d_X11_count_181 rfl) ?_
                          refine gg_st (go_getI (j := 4) cf2 sC_36 rfl (by decide) fl_X11_145 d_X11_count_184 rfl) ?_
                          refine gg_br (br_if_eq (tgt := 194) (pc' := 190) d_X11_count_187 (by decide) rfl) (fun h4 => ?_) (fun h4 => ?_)
                          · refine gg_st (go_iconst d_X11_count_194 ci_0 rfl) ?_
                            exact gg_iret rfl d_X11_count_195 rfl
                          · refine gg_st (go_iconst d_X11_count_190 ci_1 rfl) ?_
                            refine gg_st (go_goto (pc' := 195) d_X11_count_191 (by decide)) ?_
                            exact gg_iret rfl d_X11_count_195 rfl
                        · refine gg_ite (fun h1_12 => ?_) (fun h1_12 => ?_)
                          · refine gg_st (go_tableIn (pc' := 196) (by rw [h1_12]; decide) (by rw [h1_12]; decide) (by rw [h1_12]; rfl) (by decide) d_X11_count_1) ?_
                            refine gg_st (go_aload_n 0 d_X11_count_196 rfl rfl rfl) ?_
                            refine gg_st (go_getR (j := 7) cf11 sC_0 rfl (by decide) fl_X11_54 d_X11_count_197 rfl) ?_
                            refine gg_st (go_getI (j := 1) cf5 sC_62 rfl (by decide) fl_X11_149 d_X11_count_200 rfl) ?_
                            exact gg_iret rfl d_X11_count_203 rfl
                          · refine gg_st (go_tableOut (pc' := 204) (sw_out13 h1_0 h1_1 h1_2 h1_3 h1_4 h1_5 h1_6 h1_7 h1_8 h1_9 h1_10 h1_11 h1_12) (by decide) d_X11_count_1) ?_
                            refine gg_st (go_sipush d_X11_count_204 cs_m1002 rfl) ?_
                            exact gg_iret rfl d_X11_count_207 rfl
def f_X11_cut (p1 : Int32) (σ : St) : Option (Int32 × St) :=
  if (0 ≤ p1) ∧ (¬ ((σ.1 (9) 6) < p1)) then (
    Option.bind (some ((σ.1 (9) 6) - p1)) fun x1 =>
    Option.bind (some (seti σ (9) 6 p1)) fun s2 =>
    some (x1, s2))
  else (
    some ((-1002 : Int32), σ))
set_option maxRecDepth 20000 in
theorem k_X11_cut (l : Launch) (w : Wo) (p1 : Int32) (σ : St) : K l w shC m_X11_cut 1 [.ref (0), .int p1] σ (f_X11_cut p1 σ) (rIS) := by
  refine k_of (L := [some (.ref (0)), some (.int p1), none, none]) (plainFor_of_name (by decide +kernel)) 2 rfl (Nat.le_of_ble_eq_true rfl) ?_
  unfold f_X11_cut
  refine gg_st (go_aload_n 0 d_X11_cut_0 rfl rfl rfl) ?_
  refine gg_st (go_getR (j := 0) cf11 sC_0 rfl (by decide) fl_X11_12 d_X11_cut_1 rfl) ?_
  refine gg_st (go_getR (j := 5) cf6 sC_1 rfl (by decide) fl_X11_69 d_X11_cut_4 rfl) ?_
  refine gg_st (go_astore_n 2 d_X11_cut_7 rfl (by decide) (L' := [some (.ref (0)), some (.int p1), some (.ref (9)), none]) rfl rfl) ?_
  refine gg_st (go_iload_n 1 d_X11_cut_8 rfl rfl rfl) ?_
  refine gg_two (c := (0 ≤ p1) ∧ (¬ ((σ.1 (9) 6) < p1))) (pA := 24) (pB := 20) (LL := [some (.ref (0)), some (.int p1), some (.ref (9)), none]) (ss := []) ?_ ?_ (fun hA3 hB4 => ?_)
  · refine gg_st (go_aload_n 2 d_X11_cut_24 rfl rfl rfl) ?_
    refine gg_st (go_getI (j := 6) cf9 sC_9 rfl (by decide) fl_X11_83 d_X11_cut_25 rfl) ?_
    refine gg_st (go_iload_n 1 d_X11_cut_28 rfl rfl rfl) ?_
    refine gg_st (go_isub d_X11_cut_29 rfl) ?_
    refine gg_nm (fun _ => [some (.ref (0)), some (.int p1), some (.ref (9)), none]) (fun (x1 : Int32) => [.int x1]) (fun x1 => ?_)
    refine gg_st (go_istore_n 3 d_X11_cut_30 rfl (by decide) (L' := [some (.ref (0)), some (.int p1), some (.ref (9)), some (.int x1)]) rfl rfl) ?_
    refine gg_st (go_aload_n 2 d_X11_cut_31 rfl rfl rfl) ?_
    refine gg_st (go_iload_n 1 d_X11_cut_32 rfl rfl rfl) ?_
    refine gg_st (go_putI (j := 6) cf9 sC_9 rfl (by decide) rfl rfl fl_X11_83 d_X11_cut_33 rfl) ?_
    refine gg_som (fun s2 => ?_)
    refine gg_st (go_iload_n 3 d_X11_cut_36 rfl rfl rfl) ?_
    exact gg_iret rfl d_X11_cut_37 rfl
  · refine gg_st (go_sipush d_X11_cut_20 cs_m1002 rfl) ?_
    exact gg_iret rfl d_X11_cut_23 rfl
  refine gg_brs (br_if_lt (tgt := 20) (pc' := 12) d_X11_cut_9 (by decide) rfl) (fun h5 => ?_) (fun h5 => ?_)
  · refine gg_st (go_iload_n 1 d_X11_cut_12 rfl rfl rfl) ?_
    refine gg_st (go_aload_n 2 d_X11_cut_13 rfl rfl rfl) ?_
    refine gg_st (go_getI (j := 6) cf9 sC_9 rfl (by decide) fl_X11_83 d_X11_cut_14 rfl) ?_
    refine gg_brs (br_icmp_le (tgt := 24) (pc' := 20) d_X11_cut_17 (by decide) rfl) (fun h6 => ?_) (fun h6 => ?_)
    · exact gg_eq (if_neg (fun z => (fun z => z h6) z.2)) hB4
    · exact gg_eq (if_pos ⟨h5, h6⟩) hA3
  · exact gg_eq (if_neg (fun z => h5 z.1)) hB4
def f_X11_draw (p1 : Int32) (σ : St) : Option (Int32 × St) :=
  Option.bind (some (setl σ (0) 9 (p1.toInt64))) fun s1 =>
  some ((1 : Int32), s1)
set_option maxRecDepth 20000 in
theorem k_X11_draw (l : Launch) (w : Wo) (p1 : Int32) (σ : St) : K l w shC m_X11_draw 1 [.ref (0), .int p1] σ (f_X11_draw p1 σ) (rIS) := by
  refine k_of (L := [some (.ref (0)), some (.int p1)]) (plainFor_of_name (by decide +kernel)) 0 rfl (Nat.le_of_ble_eq_true rfl) ?_
  unfold f_X11_draw
  refine gg_st (go_aload_n 0 d_X11_draw_0 rfl rfl rfl) ?_
  refine gg_st (go_iload_n 1 d_X11_draw_1 rfl rfl rfl) ?_
  refine gg_st (go_i2l d_X11_draw_2 rfl) ?_
  refine gg_st (go_putL (j := 9) cf11 sC_0 rfl (by decide) rfl rfl fl_X11_65 d_X11_draw_3 rfl) ?_
  refine gg_som (fun s1 => ?_)
  refine gg_st (go_iconst d_X11_draw_6 ci_1 rfl) ?_
  exact gg_iret rfl d_X11_draw_7 rfl
def f_X11_emptyShelves_L2 (F : Nat) : Nat → Int32 → St → Option (St)
  | 0, _, _ => none
  | n + 1, v1, g =>
    if v1 < (4 : Int32) then (
      Option.bind (f_X11_shelfAt v1) fun x3 =>
      match x3 with
      | none => (
        f_X11_emptyShelves_L2 F n (v1 + (1 : Int32)) g)
      | some b4 => (
        Option.bind (some (seti g b4 7 (0 : Int32))) fun s5 =>
        f_X11_emptyShelves_L2 F n (v1 + (1 : Int32)) s5))
    else (
      some g)
def f_X11_emptyShelves (F : Nat) (σ : St) : Option (St) :=
  Option.bind (f_X11_emptyShelves_L2 F F (0 : Int32) σ) fun t6 =>
  some t6
set_option maxRecDepth 20000 in
theorem g_f_X11_emptyShelves_L2 (l : Launch) (w : Wo) (F : Nat) : ∀ (n : Nat) (v1 : Int32) (g : St), GG l w shC m_X11_emptyShelves 3 2 [some (.ref (0)), some (.int v1), none] [] g (f_X11_emptyShelves_L2 F n v1 g) (fun (t : St) => .inl (28, [none, none, none], [], t)) := by
  intro n
  induction n with
  | zero =>
    intro v1 g
    exact gg_none
  | succ n ih =>
    intro v1 g
    rw [f_X11_emptyShelves_L2]
    refine gg_st (go_iload_n 1 d_X11_emptyShelves_2 rfl rfl rfl) ?_
    refine gg_st (go_iconst d_X11_emptyShelves_3 ci_4 rfl) ?_
    refine gg_br (br_icmp_ge (tgt := 28) (pc' := 7) d_X11_emptyShelves_4 (by decide) rfl) (fun h2 => ?_) (fun h2 => ?_)
    · refine gg_st (go_aload_n 0 d_X11_emptyShelves_7 rfl rfl rfl) ?_
      refine gg_st (go_iload_n 1 d_X11_emptyShelves_8 rfl rfl rfl) ?_
      refine gv_AX (k_X11_shelfAt l w v1 g) cv_X11_208 sC_0 (Nat.le_of_ble_eq_true rfl) rfl rfl (Nat.le_of_ble_eq_true rfl) d_X11_emptyShelves_9 rfl ?_ (fun b4 b4q => ?_)
      · refine gg_st (go_astore_nN 2 d_X11_emptyShelves_12 rfl (by decide) (L' := [some (.ref (0)), some (.int v1), some (.null)]) rfl rfl) ?_
        refine gg_st (go_aload_nN 2 d_X11_emptyShelves_13 rfl rfl rfl) ?_
        refine gg_st (go_ifnullN (pc' := 22) d_X11_emptyShelves_14 (by decide)) ?_
        refine gg_st (go_iinc 1 d_X11_emptyShelves_22 rfl (v := v1 + (1 : Int32)) (by rw [ci_1]) (by decide) (L' := [some (.ref (0)), some (.int (v1 + (1 : Int32))), some (.null)]) rfl rfl) ?_
        refine gg_st (go_goto (pc' := 2) d_X11_emptyShelves_25 (by decide)) ?_
        refine gg_st (go_fg [some (.ref (0)), some (.int (v1 + (1 : Int32))), none] ⟨rfl, ⟨rfl, trivial⟩⟩) ?_
        exact ih (v1 + (1 : Int32)) g
      · have hb4 := shelf_mem b4q
        refine gg_st (go_astore_n 2 d_X11_emptyShelves_12 rfl (by decide) (L' := [some (.ref (0)), some (.int v1), some (.ref b4)]) rfl rfl) ?_
        refine gg_st (go_aload_n 2 d_X11_emptyShelves_13 rfl rfl rfl) ?_
        refine gg_st (go_ifnull d_X11_emptyShelves_14 rfl) ?_
        refine gg_st (go_aload_n 2 d_X11_emptyShelves_17 rfl rfl rfl) ?_
        refine gg_st (go_iconst d_X11_emptyShelves_18 ci_0 rfl) ?_
        refine gg_st (go_putZ (Or.inl rfl) (j := 7) cf4 (sC_st39_43_47_51_0 hb4) rfl (by decide) rfl rfl fl_X11_216 d_X11_emptyShelves_19 rfl) ?_
        refine gg_som (fun s5 => ?_)
        refine gg_st (go_iinc 1 d_X11_emptyShelves_22 rfl (v := v1 + (1 : Int32)) (by rw [ci_1]) (by decide) (L' := [some (.ref (0)), some (.int (v1 + (1 : Int32))), some (.ref b4)]) rfl rfl) ?_
        refine gg_st (go_goto (pc' := 2) d_X11_emptyShelves_25 (by decide)) ?_
        refine gg_st (go_fg [some (.ref (0)), some (.int (v1 + (1 : Int32))), none] ⟨rfl, ⟨rfl, trivial⟩⟩) ?_
        exact ih (v1 + (1 : Int32)) s5
    · refine gg_st (go_fg [none, none, none] trivial) ?_
      exact gg_end rfl
set_option maxRecDepth 20000 in
theorem k_X11_emptyShelves (l : Launch) (w : Wo) (F : Nat) (σ : St) : K l w shC m_X11_emptyShelves 3 [.ref (0)] σ (f_X11_emptyShelves F σ) (rV) := by
  refine k_of (L := [some (.ref (0)), none, none]) (plainFor_of_name (by decide +kernel)) 2 rfl (Nat.le_of_ble_eq_true rfl) ?_
  unfold f_X11_emptyShelves
  refine gg_st (go_iconst d_X11_emptyShelves_0 ci_0 rfl) ?_
  refine gg_st (go_istore_n 1 d_X11_emptyShelves_1 rfl (by decide) (L' := [some (.ref (0)), some (.int (0 : Int32)), none]) rfl rfl) ?_
  refine gg_bind 28 (fun (t6 : St) => [none, none, none]) (fun (t6 : St) => []) (fun (t6 : St) => t6) (g_f_X11_emptyShelves_L2 l w F F (0 : Int32) σ) (fun t6 => ?_)
  exact gg_vret rfl d_X11_emptyShelves_28 rfl
def f_X4_hasEnd (p1 : Int32) (σ : St) : Option (Int32) :=
  Option.bind (some (f_X11_isInside p1 (σ.1 (77) 4))) fun x1 =>
  if x1 = 0 ∨ x1 = 1 then some x1 else none
set_option maxRecDepth 20000 in
theorem k_X4_hasEnd (l : Launch) (w : Wo) (p1 : Int32) (σ : St) : K l w shC m_X4_hasEnd 2 [.ref (77), .int p1] σ (f_X4_hasEnd p1 σ) (rI σ) := by
  refine k_of (L := [some (.ref (77)), some (.int p1)]) (plainFor_of_name (by decide +kernel)) 0 rfl (Nat.le_of_ble_eq_true rfl) ?_
  unfold f_X4_hasEnd
  refine gg_st (go_iload_n 1 d_X4_hasEnd_0 rfl rfl rfl) ?_
  refine gg_st (go_aload_n 0 d_X4_hasEnd_1 rfl rfl rfl) ?_
  refine gg_st (go_getI (j := 4) cf4 sC_77 rfl (by decide) fl_X4_31 d_X4_hasEnd_2 rfl) ?_
  refine gs_I (k_X11_isInside l w p1 (σ.1 (77) 4) σ) cs_X4_46 (Nat.le_of_ble_eq_true rfl) rfl rfl (Nat.le_of_ble_eq_true rfl) d_X4_hasEnd_5 rfl (fun x1 => ?_)
  refine gg_gd (fun h2 => ?_)
  exact gg_zret h2 rfl d_X4_hasEnd_8 rfl
def f_X11_end (p1 : Int32) (σ : St) : Option (Int32) :=
  Option.bind (f_X4_hasEnd p1 σ) fun x1 =>
  if x1 = 0 then (
    some (-1001 : Int32))
  else (
    Option.bind (some (f_X11_endCode p1)) fun x3 =>
    Option.bind (f_X4_wireOf (77) x3 σ) fun x4 =>
    some x4)
set_option maxRecDepth 20000 in
theorem k_X11_end (l : Launch) (w : Wo) (p1 : Int32) (σ : St) : K l w shC m_X11_end 3 [.ref (0), .int p1] σ (f_X11_end p1 σ) (rI σ) := by
  refine k_of (L := [some (.ref (0)), some (.int p1)]) (plainFor_of_name (by decide +kernel)) 0 rfl (Nat.le_of_ble_eq_true rfl) ?_
  unfold f_X11_end
  refine gg_st (go_aload_n 0 d_X11_end_0 rfl rfl rfl) ?_
  refine gg_st (go_getR (j := 8) cf11 sC_0 rfl (by decide) fl_X11_61 d_X11_end_1 rfl) ?_
  refine gg_st (go_getR (j := 2) cf0 sC_64 rfl (by decide) fl_X11_92 d_X11_end_4 rfl) ?_
  refine gg_st (go_iload_n 1 d_X11_end_7 rfl rfl rfl) ?_
  refine gv_I (k_X4_hasEnd l w p1 σ) cv_X11_184 sC_77 (Nat.le_of_ble_eq_true rfl) rfl rfl (Nat.le_of_ble_eq_true rfl) d_X11_end_8 rfl (fun x1 => ?_)
  refine gg_br (br_if_eq (tgt := 31) (pc' := 14) d_X11_end_11 (by decide) rfl) (fun h2 => ?_) (fun h2 => ?_)
  · refine gg_st (go_sipush d_X11_end_31 cs_m1001 rfl) ?_
    exact gg_iret rfl d_X11_end_34 rfl
  · refine gg_st (go_aload_n 0 d_X11_end_14 rfl rfl rfl) ?_
    refine gg_st (go_getR (j := 8) cf11 sC_0 rfl (by decide) fl_X11_61 d_X11_end_15 rfl) ?_
    refine gg_st (go_getR (j := 2) cf0 sC_64 rfl (by decide) fl_X11_92 d_X11_end_18 rfl) ?_
    refine gg_st (go_iload_n 1 d_X11_end_21 rfl rfl rfl) ?_
    refine gs_I (k_X11_endCode l w p1 σ) cs_X11_187 (Nat.le_of_ble_eq_true rfl) rfl rfl (Nat.le_of_ble_eq_true rfl) d_X11_end_22 rfl (fun x3 => ?_)
    refine gv_I (k_X4_wireOf l w (show 77 ∈ st39_43_47_51_77 by decide) x3 σ) cv_X11_181 sC_77 (Nat.le_of_ble_eq_true rfl) rfl rfl (Nat.le_of_ble_eq_true rfl) d_X11_end_25 rfl (fun x4 => ?_)
    refine gg_st (go_goto (pc' := 34) d_X11_end_28 (by decide)) ?_
    exact gg_iret rfl d_X11_end_34 rfl
def f_X9_append_L3 (F : Nat) (c1 : Int32) : Nat → Int32 → St → Option (St)
  | 0, _, _ => none
  | n + 1, v1, g =>
    if (0 ≤ v1) ∧ ((g.1 (9) 6) < (4000 : Int32)) then (
      if inb (g.1 (9) 6) 4000 then (
        Option.bind (some (seti g (10) (ix (g.1 (9) 6)) ((((c1.toUInt32 >>> (v1.toUInt32 &&& Int32.toUInt32 31)).toInt32).toInt8.toInt32).toInt8.toInt32))) fun s5 =>
        Option.bind (some (seti s5 (9) 6 ((s5.1 (9) 6) + (1 : Int32)))) fun s6 =>
        f_X9_append_L3 F c1 n (v1 + (-8 : Int32)) s6)
      else none)
    else (
      some g)
def f_X9_append (F : Nat) (p1 : Int32) (σ : St) : Option (St) :=
  Option.bind (f_X9_append_L3 F p1 F (24 : Int32) σ) fun t11 =>
  some t11
set_option maxRecDepth 20000 in
theorem g_f_X9_append_L3 (l : Launch) (w : Wo) (F : Nat) (c1 : Int32) : ∀ (n : Nat) (v1 : Int32) (g : St), GG l w shC m_X9_append 1 3 [some (.ref (9)), some (.int c1), some (.int v1)] [] g (f_X9_append_L3 F c1 n v1 g) (fun (t : St) => .inl (46, [none, none, none], [], t)) := by
  intro n
  induction n with
  | zero =>
    intro v1 g
    exact gg_none
  | succ n ih =>
    intro v1 g
    rw [f_X9_append_L3]
    refine gg_st (go_iload_n 2 d_X9_append_3 rfl rfl rfl) ?_
    refine gg_two (c := (0 ≤ v1) ∧ ((g.1 (9) 6) < (4000 : Int32))) (pA := 17) (pB := 46) (LL := [some (.ref (9)), some (.int c1), some (.int v1)]) (ss := []) ?_ ?_ (fun hA7 hB8 => ?_)
    · refine gg_st (go_aload_n 0 d_X9_append_17 rfl rfl rfl) ?_
      refine gg_st (go_getR (j := 0) cf9 sC_9 rfl (by decide) fl_X9_9 d_X9_append_18 rfl) ?_
      refine gg_st (go_aload_n 0 d_X9_append_21 rfl rfl rfl) ?_
      refine gg_st (go_getI (j := 6) cf9 sC_9 rfl (by decide) fl_X9_26 d_X9_append_22 rfl) ?_
      refine gg_st (go_iload_n 1 d_X9_append_25 rfl rfl rfl) ?_
      refine gg_st (go_iload_n 2 d_X9_append_26 rfl rfl rfl) ?_
      refine gg_st (go_iushr d_X9_append_27 rfl) ?_
      refine gg_st (go_i2b d_X9_append_28 rfl) ?_
      refine gg_gd (fun h4 => ?_)
      refine gg_st (go_bast sC_10 h4 d_X9_append_29 rfl) ?_
      refine gg_som (fun s5 => ?_)
      refine gg_st (go_aload_n 0 d_X9_append_30 rfl rfl rfl) ?_
      refine gg_st (go_dup d_X9_append_31 rfl rfl) ?_
      refine gg_st (go_getI (j := 6) cf9 sC_9 rfl (by decide) fl_X9_26 d_X9_append_32 rfl) ?_
      refine gg_st (go_iconst d_X9_append_35 ci_1 rfl) ?_
      refine gg_st (go_iadd d_X9_append_36 rfl) ?_
      refine gg_st (go_putI (j := 6) cf9 sC_9 rfl (by decide) rfl rfl fl_X9_26 d_X9_append_37 rfl) ?_
      refine gg_som (fun s6 => ?_)
      refine gg_st (go_iinc 2 d_X9_append_40 rfl (v := v1 + (-8 : Int32)) (by rw [ci_m8]) (by decide) (L' := [some (.ref (9)), some (.int c1), some (.int (v1 + (-8 : Int32)))]) rfl rfl) ?_
      refine gg_st (go_goto (pc' := 3) d_X9_append_43 (by decide)) ?_
      exact ih (v1 + (-8 : Int32)) s6
    · refine gg_st (go_fg [none, none, none] trivial) ?_
      exact gg_end rfl
    refine gg_brs (br_if_lt (tgt := 46) (pc' := 7) d_X9_append_4 (by decide) rfl) (fun h9 => ?_) (fun h9 => ?_)
    · refine gg_st (go_aload_n 0 d_X9_append_7 rfl rfl rfl) ?_
      refine gg_st (go_getI (j := 6) cf9 sC_9 rfl (by decide) fl_X9_26 d_X9_append_8 rfl) ?_
      refine gg_st (go_sipush d_X9_append_11 cs_4000 rfl) ?_
      refine gg_brs (br_icmp_ge (tgt := 46) (pc' := 17) d_X9_append_14 (by decide) rfl) (fun h10 => ?_) (fun h10 => ?_)
      · exact gg_eq (if_pos ⟨h9, h10⟩) hA7
      · exact gg_eq (if_neg (fun z => h10 z.2)) hB8
    · exact gg_eq (if_neg (fun z => h9 z.1)) hB8
set_option maxRecDepth 20000 in
theorem k_X9_append (l : Launch) (w : Wo) (F : Nat) (p1 : Int32) (σ : St) : K l w shC m_X9_append 1 [.ref (9), .int p1] σ (f_X9_append F p1 σ) (rV) := by
  refine k_of (L := [some (.ref (9)), some (.int p1), none]) (plainFor_of_name (by decide +kernel)) 1 rfl (Nat.le_of_ble_eq_true rfl) ?_
  unfold f_X9_append
  refine gg_st (go_bipush d_X9_append_0 cb_24 rfl) ?_
  refine gg_st (go_istore_n 2 d_X9_append_2 rfl (by decide) (L' := [some (.ref (9)), some (.int p1), some (.int (24 : Int32))]) rfl rfl) ?_
  refine gg_bind 46 (fun (t11 : St) => [none, none, none]) (fun (t11 : St) => []) (fun (t11 : St) => t11) (g_f_X9_append_L3 l w F p1 F (24 : Int32) σ) (fun t11 => ?_)
  exact gg_vret rfl d_X9_append_46 rfl
def f_X9_hasRoom (p1 : Int32) (σ : St) : Int32 :=
  if ((σ.1 (9) 6) + p1) ≤ (4000 : Int32) then (
    (1 : Int32))
  else (
    (0 : Int32))
set_option maxRecDepth 20000 in
theorem k_X9_hasRoom (l : Launch) (w : Wo) (p1 : Int32) (σ : St) : K l w shC m_X9_hasRoom 1 [.ref (9), .int p1] σ (some (f_X9_hasRoom p1 σ)) (rI σ) := by
  refine k_of (L := [some (.ref (9)), some (.int p1)]) (plainFor_of_name (by decide +kernel)) 0 rfl (Nat.le_of_ble_eq_true rfl) ?_
  unfold f_X9_hasRoom
  refine gg_st (go_aload_n 0 d_X9_hasRoom_0 rfl rfl rfl) ?_
  refine gg_st (go_getI (j := 6) cf9 sC_9 rfl (by decide) fl_X9_26 d_X9_hasRoom_1 rfl) ?_
  refine gg_st (go_iload_n 1 d_X9_hasRoom_4 rfl rfl rfl) ?_
  refine gg_st (go_iadd d_X9_hasRoom_5 rfl) ?_
  refine gg_st (go_sipush d_X9_hasRoom_6 cs_4000 rfl) ?_
  refine gg_brv (f := fun z => some z) (br_icmp_gt (tgt := 16) (pc' := 12) d_X9_hasRoom_9 (by decide) rfl) (fun h1 => ?_) (fun h1 => ?_)
  · refine gg_st (go_iconst d_X9_hasRoom_12 ci_1 rfl) ?_
    refine gg_st (go_goto (pc' := 17) d_X9_hasRoom_13 (by decide)) ?_
    exact gg_zret (Or.inr rfl) rfl d_X9_hasRoom_17 rfl
  · refine gg_st (go_iconst d_X9_hasRoom_16 ci_0 rfl) ?_
    exact gg_zret (Or.inl rfl) rfl d_X9_hasRoom_17 rfl
def f_X11_feed (F : Nat) (p1 : Int32) (p2 : Int32) (p3 : Int32) (p4 : Int32) (p5 : Int32) (σ : St) : Option (Int32 × St) :=
  Option.bind (some (f_X9_hasRoom (20 : Int32) σ)) fun x1 =>
  if x1 = 0 then (
    some ((-1004 : Int32), σ))
  else (
    Option.bind (f_X9_append F p1 σ) fun s3 =>
    Option.bind (f_X9_append F p2 s3) fun s4 =>
    Option.bind (f_X9_append F p3 s4) fun s5 =>
    Option.bind (f_X9_append F p4 s5) fun s6 =>
    Option.bind (f_X9_append F p5 s6) fun s7 =>
    some (s7.1 (9) 6, s7))
set_option maxRecDepth 20000 in
theorem k_X11_feed (l : Launch) (w : Wo) (F : Nat) (p1 : Int32) (p2 : Int32) (p3 : Int32) (p4 : Int32) (p5 : Int32) (σ : St) : K l w shC m_X11_feed 2 [.ref (0), .int p1, .int p2, .int p3, .int p4, .int p5] σ (f_X11_feed F p1 p2 p3 p4 p5 σ) (rIS) := by
  refine k_of (L := [some (.ref (0)), some (.int p1), some (.int p2), some (.int p3), some (.int p4), some (.int p5), none]) (plainFor_of_name (by decide +kernel)) 1 rfl (Nat.le_of_ble_eq_true rfl) ?_
  unfold f_X11_feed
  refine gg_st (go_aload_n 0 d_X11_feed_0 rfl rfl rfl) ?_
  refine gg_st (go_getR (j := 0) cf11 sC_0 rfl (by decide) fl_X11_12 d_X11_feed_1 rfl) ?_
  refine gg_st (go_getR (j := 5) cf6 sC_1 rfl (by decide) fl_X11_69 d_X11_feed_4 rfl) ?_
  refine gg_st (go_astore 6 d_X11_feed_7 (by decide) (L' := [some (.ref (0)), some (.int p1), some (.int p2), some (.int p3), some (.int p4), some (.int p5), some (.ref (9))]) rfl rfl) ?_
  refine gg_st (go_aload 6 d_X11_feed_9 rfl rfl) ?_
  refine gg_st (go_bipush d_X11_feed_11 cb_20 rfl) ?_
  refine gv_I (k_X9_hasRoom l w (20 : Int32) σ) cv_X11_73 sC_9 (Nat.le_of_ble_eq_true rfl) rfl rfl (Nat.le_of_ble_eq_true rfl) d_X11_feed_13 rfl (fun x1 => ?_)
  refine gg_br (br_if_ne (tgt := 23) (pc' := 19) d_X11_feed_16 (by decide) rfl) (fun h2 => ?_) (fun h2 => ?_)
  · refine gg_st (go_sipush d_X11_feed_19 cs_m1004 rfl) ?_
    exact gg_iret rfl d_X11_feed_22 rfl
  · refine gg_st (go_aload 6 d_X11_feed_23 rfl rfl) ?_
    refine gg_st (go_iload_n 1 d_X11_feed_25 rfl rfl rfl) ?_
    refine gv_V (k_X9_append l w F p1 σ) cv_X11_79 sC_9 (Nat.le_of_ble_eq_true rfl) rfl rfl (Nat.le_of_ble_eq_true rfl) d_X11_feed_26 rfl (fun s3 => ?_)
    refine gg_st (go_aload 6 d_X11_feed_29 rfl rfl) ?_
    refine gg_st (go_iload_n 2 d_X11_feed_31 rfl rfl rfl) ?_
    refine gv_V (k_X9_append l w F p2 s3) cv_X11_79 sC_9 (Nat.le_of_ble_eq_true rfl) rfl rfl (Nat.le_of_ble_eq_true rfl) d_X11_feed_32 rfl (fun s4 => ?_)
    refine gg_st (go_aload 6 d_X11_feed_35 rfl rfl) ?_
    refine gg_st (go_iload_n 3 d_X11_feed_37 rfl rfl rfl) ?_
    refine gv_V (k_X9_append l w F p3 s4) cv_X11_79 sC_9 (Nat.le_of_ble_eq_true rfl) rfl rfl (Nat.le_of_ble_eq_true rfl) d_X11_feed_38 rfl (fun s5 => ?_)
    refine gg_st (go_aload 6 d_X11_feed_41 rfl rfl) ?_
    refine gg_st (go_iload 4 d_X11_feed_43 rfl rfl) ?_
    refine gv_V (k_X9_append l w F p4 s5) cv_X11_79 sC_9 (Nat.le_of_ble_eq_true rfl) rfl rfl (Nat.le_of_ble_eq_true rfl) d_X11_feed_45 rfl (fun s6 => ?_)
    refine gg_st (go_aload 6 d_X11_feed_48 rfl rfl) ?_
    refine gg_st (go_iload 5 d_X11_feed_50 rfl rfl) ?_
    refine gv_V (k_X9_append l w F p5 s6) cv_X11_79 sC_9 (Nat.le_of_ble_eq_true rfl) rfl rfl (Nat.le_of_ble_eq_true rfl) d_X11_feed_52 rfl (fun s7 => ?_)
    refine gg_st (go_aload 6 d_X11_feed_55 rfl rfl) ?_
    refine gg_st (go_getI (j := 6) cf9 sC_9 rfl (by decide) fl_X11_83 d_X11_feed_57 rfl) ?_
    exact gg_iret rfl d_X11_feed_60 rfl
