def f_X4_waitsFor (p1 : Int32) (σ : St) : Option (Int32) :=
  Option.bind (f_X4_has p1 σ) fun x1 =>
  Option.bind (
    if x1 = 0 then (
      some (-1 : Int32))
    else (
      if inb (p1 * (8 : Int32)) 3200 then (
        some (σ.1 (79) (ix (p1 * (8 : Int32)))))
      else none)) fun t2 =>
  if (0 ≤ t2) ∧ (¬ ((f_X11_portOf t2) = 0)) then (
    Option.bind (some (f_X11_agentOf t2)) fun x6 =>
    some x6)
  else (
    some (-1 : Int32))
set_option maxRecDepth 20000 in
theorem k_X4_waitsFor (l : Launch) (w : Wo) (p1 : Int32) (σ : St) : K l w shC m_X4_waitsFor 2 [.ref (77), .int p1] σ (f_X4_waitsFor p1 σ) (rI σ) := by
  refine k_of (L := [some (.ref (77)), some (.int p1), none]) (plainFor_of_name (by decide +kernel)) 1 rfl (Nat.le_of_ble_eq_true rfl) ?_
  unfold f_X4_waitsFor
  refine gg_st (go_aload_n 0 d_X4_waitsFor_0 rfl rfl rfl) ?_
  refine gg_st (go_iload_n 1 d_X4_waitsFor_1 rfl rfl rfl) ?_
  refine gv_I (k_X4_has l w p1 σ) cv_X4_56 sC_77 (Nat.le_of_ble_eq_true rfl) rfl rfl (Nat.le_of_ble_eq_true rfl) d_X4_waitsFor_2 rfl (fun x1 => ?_)
  refine gg_bind 21 (fun (t2 : Int32) => [none, none, none]) (fun (t2 : Int32) => [.int t2]) (fun (t2 : Int32) => σ) ?_ (fun t2 => ?_)
  · refine gg_br (br_if_eq (tgt := 20) (pc' := 8) d_X4_waitsFor_5 (by decide) rfl) (fun h4 => ?_) (fun h4 => ?_)
    · refine gg_st (go_iconst d_X4_waitsFor_20 ci_m1 rfl) ?_
      refine gg_st (go_fg [none, none, none] trivial) ?_
      exact gg_end rfl
    · refine gg_st (go_aload_n 0 d_X4_waitsFor_8 rfl rfl rfl) ?_
      refine gg_st (go_getR (j := 1) cf4 sC_77 rfl (by decide) fl_X4_15 d_X4_waitsFor_9 rfl) ?_
      refine gg_st (go_iload_n 1 d_X4_waitsFor_12 rfl rfl rfl) ?_
      refine gg_st (go_bipush d_X4_waitsFor_13 cb_8 rfl) ?_
      refine gg_st (go_imul d_X4_waitsFor_15 rfl) ?_
      refine gg_gd (fun h5 => ?_)
      refine gg_st (go_iald sC_79 h5 d_X4_waitsFor_16 rfl) ?_
      refine gg_st (go_goto (pc' := 21) d_X4_waitsFor_17 (by decide)) ?_
      refine gg_st (go_fg [none, none, none] trivial) ?_
      exact gg_end rfl
  · refine gg_st (go_istore_n 2 d_X4_waitsFor_21 rfl (by decide) (L' := [none, none, some (.int t2)]) rfl rfl) ?_
    refine gg_st (go_iload_n 2 d_X4_waitsFor_22 rfl rfl rfl) ?_
    refine gg_two (c := (0 ≤ t2) ∧ (¬ ((f_X11_portOf t2) = 0))) (pA := 33) (pB := 40) (LL := [none, none, some (.int t2)]) (ss := []) ?_ ?_ (fun hA7 hB8 => ?_)
    · refine gg_st (go_iload_n 2 d_X4_waitsFor_33 rfl rfl rfl) ?_
      refine gs_I (k_X11_agentOf l w t2 σ) cs_X4_74 (Nat.le_of_ble_eq_true rfl) rfl rfl (Nat.le_of_ble_eq_true rfl) d_X4_waitsFor_34 rfl (fun x6 => ?_)
      refine gg_st (go_goto (pc' := 41) d_X4_waitsFor_37 (by decide)) ?_
      exact gg_iret rfl d_X4_waitsFor_41 rfl
    · refine gg_st (go_iconst d_X4_waitsFor_40 ci_m1 rfl) ?_
      exact gg_iret rfl d_X4_waitsFor_41 rfl
    refine gg_brs (br_if_lt (tgt := 40) (pc' := 26) d_X4_waitsFor_23 (by decide) rfl) (fun h9 => ?_) (fun h9 => ?_)
    · refine gg_st (go_iload_n 2 d_X4_waitsFor_26 rfl rfl rfl) ?_
      refine gg_st (go_sI (k_X11_portOf l w t2 σ) cs_X4_71 (Nat.le_of_ble_eq_true rfl) rfl rfl (Nat.le_of_ble_eq_true rfl) d_X4_waitsFor_27 rfl) ?_
      refine gg_brs (br_if_eq (tgt := 40) (pc' := 33) d_X4_waitsFor_30 (by decide) rfl) (fun h10 => ?_) (fun h10 => ?_)
      · exact gg_eq (if_neg (fun z => (fun z => z h10) z.2)) hB8
      · exact gg_eq (if_pos ⟨h9, h10⟩) hA7
    · exact gg_eq (if_neg (fun z => h9 z.1)) hB8
def f_X10_countCircles_L33 (F : Nat) (c2 : Int32) (c3 : Int32) : Nat → Int32 → Int32 → St → Option (Int32 × St)
  | 0, _, _, _ => none
  | n + 1, v4, v5, g =>
    if (v5 < (400 : Int32)) ∧ (¬ ((f_X11_isInside v4 (400 : Int32)) = 0)) then (
      if inb v4 400 then (
        if (g.1 (58) (ix v4)) = (-1 : Int32) then (
          if inb v4 400 then (
            Option.bind (some (seti g (58) (ix v4) c3)) fun s12 =>
            Option.bind (f_X4_waitsFor v4 s12) fun x13 =>
            f_X10_countCircles_L33 F c2 c3 n x13 (v5 + (1 : Int32)) s12)
          else none)
        else (
          some (v4, g)))
      else none)
    else (
      some (v4, g))
def f_X10_countCircles_L12 (F : Nat) : Nat → Int32 → Int32 → St → Option (Int32 × St)
  | 0, _, _, _ => none
  | n + 1, v2, v3, g =>
    if (v3 < (g.1 (77) 6)) ∧ (v3 < (400 : Int32)) then (
      Option.bind (f_X10_countCircles_L33 F v2 v3 F v3 (0 : Int32) g) fun t18 =>
      Option.bind (some (f_X11_isInside t18.1 (400 : Int32))) fun x19 =>
      Option.bind (
        if x19 = 0 then (
          some v2)
        else (
          if inb t18.1 400 then (
            if (t18.2.1 (58) (ix t18.1)) = v3 then (
              Option.bind (some (v2 + (1 : Int32))) fun x25 =>
              some x25)
            else (
              some v2))
          else none)) fun t20 =>
      f_X10_countCircles_L12 F n t20 (v3 + (1 : Int32)) t18.2)
    else (
      some (v2, g))
def f_X10_countCircles (F : Nat) (σ : St) : Option (Int32 × St) :=
  Option.bind (f_J7_fill_53178 F (58) 400 (-1 : Int32) σ) fun s1 =>
  Option.bind (f_X10_countCircles_L12 F F (0 : Int32) (0 : Int32) s1) fun t30 =>
  some (t30.1, t30.2)
set_option maxRecDepth 20000 in
theorem g_f_X10_countCircles_L33 (l : Launch) (w : Wo) (F : Nat) (c2 : Int32) (c3 : Int32) : ∀ (n : Nat) (v4 : Int32) (v5 : Int32) (g : St), GG l w shC m_X10_countCircles 3 33 [some (.ref (56)), some (.ref (77)), some (.int c2), some (.int c3), some (.int v4), some (.int v5)] [] g (f_X10_countCircles_L33 F c2 c3 n v4 v5 g) (fun (t : Int32 × St) => .inl (85, [some (.ref (56)), some (.ref (77)), some (.int c2), some (.int c3), some (.int t.1), none], [], t.2)) := by
  intro n
  induction n with
  | zero =>
    intro v4 v5 g
    exact gg_none
  | succ n ih =>
    intro v4 v5 g
    rw [f_X10_countCircles_L33]
    refine gg_st (go_iload 5 d_X10_countCircles_33 rfl rfl) ?_
    refine gg_st (go_sipush d_X10_countCircles_35 cs_400 rfl) ?_
    refine gg_two (c := (v5 < (400 : Int32)) ∧ (¬ ((f_X11_isInside v4 (400 : Int32)) = 0))) (pA := 52) (pB := 85) (LL := [some (.ref (56)), some (.ref (77)), some (.int c2), some (.int c3), some (.int v4), some (.int v5)]) (ss := []) ?_ ?_ (fun hA14 hB15 => ?_)
    · refine gg_st (go_aload_n 0 d_X10_countCircles_52 rfl rfl rfl) ?_
      refine gg_st (go_getR (j := 1) cf10 sC_56 rfl (by decide) fl_X10_15 d_X10_countCircles_53 rfl) ?_
      refine gg_st (go_iload 4 d_X10_countCircles_56 rfl rfl) ?_
      refine gg_gd (fun h7 => ?_)
      refine gg_st (go_iald sC_58 h7 d_X10_countCircles_58 rfl) ?_
      refine gg_st (go_iconst d_X10_countCircles_59 ci_m1 rfl) ?_
      refine gg_br (br_icmp_ne (tgt := 85) (pc' := 63) d_X10_countCircles_60 (by decide) rfl) (fun h10 => ?_) (fun h10 => ?_)
      · refine gg_st (go_aload_n 0 d_X10_countCircles_63 rfl rfl rfl) ?_
        refine gg_st (go_getR (j := 1) cf10 sC_56 rfl (by decide) fl_X10_15 d_X10_countCircles_64 rfl) ?_
        refine gg_st (go_iload 4 d_X10_countCircles_67 rfl rfl) ?_
        refine gg_st (go_iload_n 3 d_X10_countCircles_69 rfl rfl rfl) ?_
        refine gg_gd (fun h11 => ?_)
        refine gg_st (go_iast sC_58 h11 d_X10_countCircles_70 rfl) ?_
        refine gg_som (fun s12 => ?_)
        refine gg_st (go_aload_n 1 d_X10_countCircles_71 rfl rfl rfl) ?_
        refine gg_st (go_iload 4 d_X10_countCircles_72 rfl rfl) ?_
        refine gv_I (k_X4_waitsFor l w v4 s12) cv_X10_94 sC_77 (Nat.le_of_ble_eq_true rfl) rfl rfl (Nat.le_of_ble_eq_true rfl) d_X10_countCircles_74 rfl (fun x13 => ?_)
        refine gg_st (go_istore 4 d_X10_countCircles_77 (by decide) (L' := [some (.ref (56)), some (.ref (77)), some (.int c2), some (.int c3), some (.int x13), some (.int v5)]) rfl rfl) ?_
        refine gg_st (go_iinc 5 d_X10_countCircles_79 rfl (v := v5 + (1 : Int32)) (by rw [ci_1]) (by decide) (L' := [some (.ref (56)), some (.ref (77)), some (.int c2), some (.int c3), some (.int x13), some (.int (v5 + (1 : Int32)))]) rfl rfl) ?_
        refine gg_st (go_goto (pc' := 33) d_X10_countCircles_82 (by decide)) ?_
        exact ih x13 (v5 + (1 : Int32)) s12
      · refine gg_st (go_fg [some (.ref (56)), some (.ref (77)), some (.int c2), some (.int c3), some (.int v4), none] ⟨rfl, ⟨rfl, ⟨rfl, ⟨rfl, ⟨rfl, trivial⟩⟩⟩⟩⟩) ?_
        exact gg_end rfl
    · refine gg_st (go_fg [some (.ref (56)), some (.ref (77)), some (.int c2), some (.int c3), some (.int v4), none] ⟨rfl, ⟨rfl, ⟨rfl, ⟨rfl, ⟨rfl, trivial⟩⟩⟩⟩⟩) ?_
      exact gg_end rfl
    refine gg_brs (br_icmp_ge (tgt := 85) (pc' := 41) d_X10_countCircles_38 (by decide) rfl) (fun h16 => ?_) (fun h16 => ?_)
    · refine gg_st (go_iload 4 d_X10_countCircles_41 rfl rfl) ?_
      refine gg_st (go_sipush d_X10_countCircles_43 cs_400 rfl) ?_
      refine gg_st (go_sI (k_X11_isInside l w v4 (400 : Int32) g) cs_X10_63 (Nat.le_of_ble_eq_true rfl) rfl rfl (Nat.le_of_ble_eq_true rfl) d_X10_countCircles_46 rfl) ?_
      refine gg_brs (br_if_eq (tgt := 85) (pc' := 52) d_X10_countCircles_49 (by decide) rfl) (fun h17 => ?_) (fun h17 => ?_)
      · exact gg_eq (if_neg (fun z => (fun z => z h17) z.2)) hB15
      · exact gg_eq (if_pos ⟨h16, h17⟩) hA14
    · exact gg_eq (if_neg (fun z => h16 z.1)) hB15
set_option maxRecDepth 20000 in
theorem g_f_X10_countCircles_L12 (l : Launch) (w : Wo) (F : Nat) : ∀ (n : Nat) (v2 : Int32) (v3 : Int32) (g : St), GG l w shC m_X10_countCircles 3 12 [some (.ref (56)), some (.ref (77)), some (.int v2), some (.int v3), none, none] [] g (f_X10_countCircles_L12 F n v2 v3 g) (fun (t : Int32 × St) => .inl (116, [none, none, some (.int t.1), none, none, none], [], t.2)) := by
  intro n
  induction n with
  | zero =>
    intro v2 v3 g
    exact gg_none
  | succ n ih =>
    intro v2 v3 g
    rw [f_X10_countCircles_L12]
    refine gg_st (go_iload_n 3 d_X10_countCircles_12 rfl rfl rfl) ?_
    refine gg_st (go_aload_n 1 d_X10_countCircles_13 rfl rfl rfl) ?_
    refine gg_st (go_getI (j := 6) cf4 sC_77 rfl (by decide) fl_X10_91 d_X10_countCircles_14 rfl) ?_
    refine gg_two (c := (v3 < (g.1 (77) 6)) ∧ (v3 < (400 : Int32))) (pA := 27) (pB := 116) (LL := [some (.ref (56)), some (.ref (77)), some (.int v2), some (.int v3), none, none]) (ss := []) ?_ ?_ (fun hA26 hB27 => ?_)
    · refine gg_st (go_iload_n 3 d_X10_countCircles_27 rfl rfl rfl) ?_
      refine gg_st (go_istore 4 d_X10_countCircles_28 (by decide) (L' := [some (.ref (56)), some (.ref (77)), some (.int v2), some (.int v3), some (.int v3), none]) rfl rfl) ?_
      refine gg_st (go_iconst d_X10_countCircles_30 ci_0 rfl) ?_
      refine gg_st (go_istore 5 d_X10_countCircles_31 (by decide) (L' := [some (.ref (56)), some (.ref (77)), some (.int v2), some (.int v3), some (.int v3), some (.int (0 : Int32))]) rfl rfl) ?_
      refine gg_bind 85 (fun (t18 : Int32 × St) => [some (.ref (56)), some (.ref (77)), some (.int v2), some (.int v3), some (.int t18.1), none]) (fun (t18 : Int32 × St) => []) (fun (t18 : Int32 × St) => t18.2) (g_f_X10_countCircles_L33 l w F v2 v3 F v3 (0 : Int32) g) (fun t18 => ?_)
      refine gg_st (go_iload 4 d_X10_countCircles_85 rfl rfl) ?_
      refine gg_st (go_sipush d_X10_countCircles_87 cs_400 rfl) ?_
      refine gs_I (k_X11_isInside l w t18.1 (400 : Int32) t18.2) cs_X10_63 (Nat.le_of_ble_eq_true rfl) rfl rfl (Nat.le_of_ble_eq_true rfl) d_X10_countCircles_90 rfl (fun x19 => ?_)
      refine gg_bind 110 (fun (t20 : Int32) => [some (.ref (56)), some (.ref (77)), some (.int t20), some (.int v3), none, none]) (fun (t20 : Int32) => []) (fun (t20 : Int32) => t18.2) ?_ (fun t20 => ?_)
      · refine gg_br (br_if_eq (tgt := 110) (pc' := 96) d_X10_countCircles_93 (by decide) rfl) (fun h22 => ?_) (fun h22 => ?_)
        · refine gg_st (go_fg [some (.ref (56)), some (.ref (77)), some (.int v2), some (.int v3), none, none] ⟨rfl, ⟨rfl, ⟨rfl, ⟨rfl, trivial⟩⟩⟩⟩) ?_
          exact gg_end rfl
        · refine gg_st (go_aload_n 0 d_X10_countCircles_96 rfl rfl rfl) ?_
          refine gg_st (go_getR (j := 1) cf10 sC_56 rfl (by decide) fl_X10_15 d_X10_countCircles_97 rfl) ?_
          refine gg_st (go_iload 4 d_X10_countCircles_100 rfl rfl) ?_
          refine gg_gd (fun h23 => ?_)
          refine gg_st (go_iald sC_58 h23 d_X10_countCircles_102 rfl) ?_
          refine gg_st (go_iload_n 3 d_X10_countCircles_103 rfl rfl rfl) ?_
          refine gg_br (br_icmp_ne (tgt := 110) (pc' := 107) d_X10_countCircles_104 (by decide) rfl) (fun h24 => ?_) (fun h24 => ?_)
          · refine gg_st (go_iinc 2 d_X10_countCircles_107 rfl (v := v2 + (1 : Int32)) (by rw [ci_1]) (by decide) (L' := [some (.ref (56)), some (.ref (77)), some (.int (v2 + (1 : Int32))), some (.int v3), some (.int t18.1), none]) rfl rfl) ?_
            refine gg_nm (fun (x25 : Int32) => [some (.ref (56)), some (.ref (77)), some (.int x25), some (.int v3), some (.int t18.1), none]) (fun _ => []) (fun x25 => ?_)
            refine gg_st (go_fg [some (.ref (56)), some (.ref (77)), some (.int x25), some (.int v3), none, none] ⟨rfl, ⟨rfl, ⟨rfl, ⟨rfl, trivial⟩⟩⟩⟩) ?_
            exact gg_end rfl
          · refine gg_st (go_fg [some (.ref (56)), some (.ref (77)), some (.int v2), some (.int v3), none, none] ⟨rfl, ⟨rfl, ⟨rfl, ⟨rfl, trivial⟩⟩⟩⟩) ?_
            exact gg_end rfl
      · refine gg_st (go_iinc 3 d_X10_countCircles_110 rfl (v := v3 + (1 : Int32)) (by rw [ci_1]) (by decide) (L' := [some (.ref (56)), some (.ref (77)), some (.int t20), some (.int (v3 + (1 : Int32))), none, none]) rfl rfl) ?_
        refine gg_st (go_goto (pc' := 12) d_X10_countCircles_113 (by decide)) ?_
        exact ih t20 (v3 + (1 : Int32)) t18.2
    · refine gg_st (go_fg [none, none, some (.int v2), none, none, none] ⟨rfl, trivial⟩) ?_
      exact gg_end rfl
    refine gg_brs (br_icmp_ge (tgt := 116) (pc' := 20) d_X10_countCircles_17 (by decide) rfl) (fun h28 => ?_) (fun h28 => ?_)
    · refine gg_st (go_iload_n 3 d_X10_countCircles_20 rfl rfl rfl) ?_
      refine gg_st (go_sipush d_X10_countCircles_21 cs_400 rfl) ?_
      refine gg_brs (br_icmp_ge (tgt := 116) (pc' := 27) d_X10_countCircles_24 (by decide) rfl) (fun h29 => ?_) (fun h29 => ?_)
      · exact gg_eq (if_pos ⟨h28, h29⟩) hA26
      · exact gg_eq (if_neg (fun z => h29 z.2)) hB27
    · exact gg_eq (if_neg (fun z => h28 z.1)) hB27
set_option maxRecDepth 20000 in
theorem k_X10_countCircles (l : Launch) (w : Wo) (F : Nat) (σ : St) : K l w shC m_X10_countCircles 3 [.ref (56), .ref (77)] σ (f_X10_countCircles F σ) (rIS) := by
  refine k_of (L := [some (.ref (56)), some (.ref (77)), none, none, none, none]) (plainFor_of_name (by decide +kernel)) 4 rfl (Nat.le_of_ble_eq_true rfl) ?_
  unfold f_X10_countCircles
  refine gg_st (go_aload_n 0 d_X10_countCircles_0 rfl rfl rfl) ?_
  refine gg_st (go_getR (j := 1) cf10 sC_56 rfl (by decide) fl_X10_15 d_X10_countCircles_1 rfl) ?_
  refine gg_st (go_iconst d_X10_countCircles_4 ci_m1 rfl) ?_
  refine gs_V (k_J7_fill_53178 l w F sC_58 (-1 : Int32) σ) cs_X10_18 (Nat.le_of_ble_eq_true rfl) rfl rfl (Nat.le_of_ble_eq_true rfl) d_X10_countCircles_5 rfl (fun s1 => ?_)
  refine gg_st (go_iconst d_X10_countCircles_8 ci_0 rfl) ?_
  refine gg_st (go_istore_n 2 d_X10_countCircles_9 rfl (by decide) (L' := [some (.ref (56)), some (.ref (77)), some (.int (0 : Int32)), none, none, none]) rfl rfl) ?_
  refine gg_st (go_iconst d_X10_countCircles_10 ci_0 rfl) ?_
  refine gg_st (go_istore_n 3 d_X10_countCircles_11 rfl (by decide) (L' := [some (.ref (56)), some (.ref (77)), some (.int (0 : Int32)), some (.int (0 : Int32)), none, none]) rfl rfl) ?_
  refine gg_bind 116 (fun (t30 : Int32 × St) => [none, none, some (.int t30.1), none, none, none]) (fun (t30 : Int32 × St) => []) (fun (t30 : Int32 × St) => t30.2) (g_f_X10_countCircles_L12 l w F F (0 : Int32) (0 : Int32) s1) (fun t30 => ?_)
  refine gg_st (go_iload_n 2 d_X10_countCircles_116 rfl rfl rfl) ?_
  exact gg_iret rfl d_X10_countCircles_117 rfl
def f_X10_reach (a : Nat) (p1 : Int32) (σ : St) : Option (St) :=
  Option.bind (
    if p1 < 0 then (
      some (-1 : Int32))
    else (
      Option.bind (some (f_X11_agentOf p1)) fun x3 =>
      some x3)) fun t1 =>
  Option.bind (some (f_X11_isInside t1 (400 : Int32))) fun x4 =>
  if x4 = 0 then (
    some σ)
  else (
    if inb t1 400 then (
      if ((σ.1 (a + 2) (ix t1)) = (-1 : Int32)) ∧ ((σ.1 a 2) < (400 : Int32)) then (
        if inb t1 400 then (
          Option.bind (some (seti σ (a + 2) (ix t1) (σ.1 a 2))) fun s11 =>
          if inb (s11.1 a 2) 400 then (
            Option.bind (some (seti s11 (a + 1) (ix (s11.1 a 2)) t1)) fun s13 =>
            Option.bind (some (seti s13 a 2 ((s13.1 a 2) + (1 : Int32)))) fun s14 =>
            some s14)
          else none)
        else none)
      else (
        some σ))
    else none)
set_option maxRecDepth 20000 in
theorem k_X10_reach (l : Launch) (w : Wo) {a : Nat} (ha : a ∈ st56_59) (p1 : Int32) (σ : St) : K l w shC m_X10_reach 2 [.ref a, .int p1] σ (f_X10_reach a p1 σ) (rV) := by
  refine k_of (L := [some (.ref a), some (.int p1), none]) (plainFor_of_name (by decide +kernel)) 1 rfl (Nat.le_of_ble_eq_true rfl) ?_
  unfold f_X10_reach
  refine gg_st (go_iload_n 1 d_X10_reach_0 rfl rfl rfl) ?_
  refine gg_bind 12 (fun (t1 : Int32) => [some (.ref a), none, none]) (fun (t1 : Int32) => [.int t1]) (fun (t1 : Int32) => σ) ?_ (fun t1 => ?_)
  · refine gg_br (br_if_ge (tgt := 8) (pc' := 4) d_X10_reach_1 (by decide) rfl) (fun h2 => ?_) (fun h2 => ?_)
    · refine gg_st (go_iconst d_X10_reach_4 ci_m1 rfl) ?_
      refine gg_st (go_goto (pc' := 12) d_X10_reach_5 (by decide)) ?_
      refine gg_st (go_fg [some (.ref a), none, none] ⟨rfl, trivial⟩) ?_
      exact gg_end rfl
    · refine gg_st (go_iload_n 1 d_X10_reach_8 rfl rfl rfl) ?_
      refine gs_I (k_X11_agentOf l w p1 σ) cs_X10_60 (Nat.le_of_ble_eq_true rfl) rfl rfl (Nat.le_of_ble_eq_true rfl) d_X10_reach_9 rfl (fun x3 => ?_)
      refine gg_st (go_fg [some (.ref a), none, none] ⟨rfl, trivial⟩) ?_
      exact gg_end rfl
  · refine gg_st (go_istore_n 2 d_X10_reach_12 rfl (by decide) (L' := [some (.ref a), none, some (.int t1)]) rfl rfl) ?_
    refine gg_st (go_iload_n 2 d_X10_reach_13 rfl rfl rfl) ?_
    refine gg_st (go_sipush d_X10_reach_14 cs_400 rfl) ?_
    refine gs_I (k_X11_isInside l w t1 (400 : Int32) σ) cs_X10_63 (Nat.le_of_ble_eq_true rfl) rfl rfl (Nat.le_of_ble_eq_true rfl) d_X10_reach_17 rfl (fun x4 => ?_)
    refine gg_br (br_if_eq (tgt := 73) (pc' := 23) d_X10_reach_20 (by decide) rfl) (fun h6 => ?_) (fun h6 => ?_)
    · exact gg_vret rfl d_X10_reach_73 rfl
    · refine gg_st (go_aload_n 0 d_X10_reach_23 rfl rfl rfl) ?_
      refine gg_st (go_getR (j := 1) cf10 (sC_st56_59_0 ha) rfl (by decide) fl_X10_15 d_X10_reach_24 rfl) ?_
      refine gg_st (go_iload_n 2 d_X10_reach_27 rfl rfl rfl) ?_
      refine gg_gd (fun h7 => ?_)
      refine gg_st (go_iald (sC_st56_59_2 ha) h7 d_X10_reach_28 rfl) ?_
      refine gg_st (go_iconst d_X10_reach_29 ci_m1 rfl) ?_
      refine gg_two (c := ((σ.1 (a + 2) (ix t1)) = (-1 : Int32)) ∧ ((σ.1 a 2) < (400 : Int32))) (pA := 43) (pB := 73) (LL := [some (.ref a), none, some (.int t1)]) (ss := []) ?_ ?_ (fun hA15 hB16 => ?_)
      · refine gg_st (go_aload_n 0 d_X10_reach_43 rfl rfl rfl) ?_
        refine gg_st (go_getR (j := 1) cf10 (sC_st56_59_0 ha) rfl (by decide) fl_X10_15 d_X10_reach_44 rfl) ?_
        refine gg_st (go_iload_n 2 d_X10_reach_47 rfl rfl rfl) ?_
        refine gg_st (go_aload_n 0 d_X10_reach_48 rfl rfl rfl) ?_
        refine gg_st (go_getI (j := 2) cf10 (sC_st56_59_0 ha) rfl (by decide) fl_X10_24 d_X10_reach_49 rfl) ?_
        refine gg_gd (fun h10 => ?_)
        refine gg_st (go_iast (sC_st56_59_2 ha) h10 d_X10_reach_52 rfl) ?_
        refine gg_som (fun s11 => ?_)
        refine gg_st (go_aload_n 0 d_X10_reach_53 rfl rfl rfl) ?_
        refine gg_st (go_getR (j := 0) cf10 (sC_st56_59_0 ha) rfl (by decide) fl_X10_9 d_X10_reach_54 rfl) ?_
        refine gg_st (go_aload_n 0 d_X10_reach_57 rfl rfl rfl) ?_
        refine gg_st (go_getI (j := 2) cf10 (sC_st56_59_0 ha) rfl (by decide) fl_X10_24 d_X10_reach_58 rfl) ?_
        refine gg_st (go_iload_n 2 d_X10_reach_61 rfl rfl rfl) ?_
        refine gg_gd (fun h12 => ?_)
        refine gg_st (go_iast (sC_st56_59_1 ha) h12 d_X10_reach_62 rfl) ?_
        refine gg_som (fun s13 => ?_)
        refine gg_st (go_aload_n 0 d_X10_reach_63 rfl rfl rfl) ?_
        refine gg_st (go_dup d_X10_reach_64 rfl rfl) ?_
        refine gg_st (go_getI (j := 2) cf10 (sC_st56_59_0 ha) rfl (by decide) fl_X10_24 d_X10_reach_65 rfl) ?_
        refine gg_st (go_iconst d_X10_reach_68 ci_1 rfl) ?_
        refine gg_st (go_iadd d_X10_reach_69 rfl) ?_
        refine gg_st (go_putI (j := 2) cf10 (sC_st56_59_0 ha) rfl (by decide) rfl rfl fl_X10_24 d_X10_reach_70 rfl) ?_
        refine gg_som (fun s14 => ?_)
        exact gg_vret rfl d_X10_reach_73 rfl
      · exact gg_vret rfl d_X10_reach_73 rfl
      refine gg_brs (br_icmp_ne (tgt := 73) (pc' := 33) d_X10_reach_30 (by decide) rfl) (fun h17 => ?_) (fun h17 => ?_)
      · refine gg_st (go_aload_n 0 d_X10_reach_33 rfl rfl rfl) ?_
        refine gg_st (go_getI (j := 2) cf10 (sC_st56_59_0 ha) rfl (by decide) fl_X10_24 d_X10_reach_34 rfl) ?_
        refine gg_st (go_sipush d_X10_reach_37 cs_400 rfl) ?_
        refine gg_brs (br_icmp_ge (tgt := 73) (pc' := 43) d_X10_reach_40 (by decide) rfl) (fun h18 => ?_) (fun h18 => ?_)
        · exact gg_eq (if_pos ⟨h17, h18⟩) hA15
        · exact gg_eq (if_neg (fun z => h18 z.2)) hB16
      · exact gg_eq (if_neg (fun z => h17 z.1)) hB16
def f_X11_portCode (p1 : Int32) (p2 : Int32) : Int32 :=
  ((8 : Int32) * p1) + p2
set_option maxRecDepth 20000 in
theorem k_X11_portCode (l : Launch) (w : Wo) (p1 : Int32) (p2 : Int32) (σ : St) : K l w shC m_X11_portCode 1 [.int p1, .int p2] σ (some (f_X11_portCode p1 p2)) (rI σ) := by
  refine k_of (L := [some (.int p1), some (.int p2)]) (plainFor_of_name (by decide +kernel)) 0 rfl (Nat.le_of_ble_eq_true rfl) ?_
  unfold f_X11_portCode
  refine gg_st (go_bipush d_X11_portCode_0 cb_8 rfl) ?_
  refine gg_st (go_iload_n 0 d_X11_portCode_2 rfl rfl rfl) ?_
  refine gg_st (go_imul d_X11_portCode_3 rfl) ?_
  refine gg_st (go_iload_n 1 d_X11_portCode_4 rfl rfl rfl) ?_
  refine gg_st (go_iadd d_X11_portCode_5 rfl) ?_
  exact gg_iret rfl d_X11_portCode_6 rfl
def f_X3_portsOf (a : Nat) (p1 : Int32) (σ : St) : Option (Int32) :=
  if (0 ≤ p1) ∧ ((p1 < (σ.1 a 3)) ∧ (p1 < (16 : Int32))) then (
    if inb p1 16 then (
      some (σ.1 (a + 2) (ix p1)))
    else none)
  else (
    some (0 : Int32))
set_option maxRecDepth 20000 in
theorem k_X3_portsOf (l : Launch) (w : Wo) {a : Nat} (ha : a ∈ st15_65) (p1 : Int32) (σ : St) : K l w shC m_X3_portsOf 1 [.ref a, .int p1] σ (f_X3_portsOf a p1 σ) (rI σ) := by
  refine k_of (L := [some (.ref a), some (.int p1)]) (plainFor_of_name (by decide +kernel)) 0 rfl (Nat.le_of_ble_eq_true rfl) ?_
  unfold f_X3_portsOf
  refine gg_st (go_iload_n 1 d_X3_portsOf_0 rfl rfl rfl) ?_
  refine gg_two (c := (0 ≤ p1) ∧ ((p1 < (σ.1 a 3)) ∧ (p1 < (16 : Int32)))) (pA := 18) (pB := 27) (LL := [some (.ref a), some (.int p1)]) (ss := []) ?_ ?_ (fun hA3 hB4 => ?_)
  · refine gg_st (go_aload_n 0 d_X3_portsOf_18 rfl rfl rfl) ?_
    refine gg_st (go_getR (j := 1) cf3 (sC_st15_65_0 ha) rfl (by decide) fl_X3_15 d_X3_portsOf_19 rfl) ?_
    refine gg_st (go_iload_n 1 d_X3_portsOf_22 rfl rfl rfl) ?_
    refine gg_gd (fun h2 => ?_)
    refine gg_st (go_iald (sC_st15_65_2 ha) h2 d_X3_portsOf_23 rfl) ?_
    refine gg_st (go_goto (pc' := 28) d_X3_portsOf_24 (by decide)) ?_
    exact gg_iret rfl d_X3_portsOf_28 rfl
  · refine gg_st (go_iconst d_X3_portsOf_27 ci_0 rfl) ?_
    exact gg_iret rfl d_X3_portsOf_28 rfl
  refine gg_brs (br_if_lt (tgt := 27) (pc' := 4) d_X3_portsOf_1 (by decide) rfl) (fun h5 => ?_) (fun h5 => ?_)
  · refine gg_st (go_iload_n 1 d_X3_portsOf_4 rfl rfl rfl) ?_
    refine gg_st (go_aload_n 0 d_X3_portsOf_5 rfl rfl rfl) ?_
    refine gg_st (go_getI (j := 3) cf3 (sC_st15_65_0 ha) rfl (by decide) fl_X3_22 d_X3_portsOf_6 rfl) ?_
    refine gg_brs (br_icmp_ge (tgt := 27) (pc' := 12) d_X3_portsOf_9 (by decide) rfl) (fun h6 => ?_) (fun h6 => ?_)
    · refine gg_st (go_iload_n 1 d_X3_portsOf_12 rfl rfl rfl) ?_
      refine gg_st (go_bipush d_X3_portsOf_13 cb_16 rfl) ?_
      refine gg_brs (br_icmp_ge (tgt := 27) (pc' := 18) d_X3_portsOf_15 (by decide) rfl) (fun h7 => ?_) (fun h7 => ?_)
      · exact gg_eq (if_pos ⟨h5, ⟨h6, h7⟩⟩) hA3
      · exact gg_eq (if_neg (fun z => (fun z => h7 z.2) z.2)) hB4
    · exact gg_eq (if_neg (fun z => (fun z => h6 z.1) z.2)) hB4
  · exact gg_eq (if_neg (fun z => h5 z.1)) hB4
def f_X11_endOf (p1 : Int32) : Int32 :=
  (-2 : Int32) - p1
set_option maxRecDepth 20000 in
theorem k_X11_endOf (l : Launch) (w : Wo) (p1 : Int32) (σ : St) : K l w shC m_X11_endOf 1 [.int p1] σ (some (f_X11_endOf p1)) (rI σ) := by
  refine k_of (L := [some (.int p1)]) (plainFor_of_name (by decide +kernel)) 0 rfl (Nat.le_of_ble_eq_true rfl) ?_
  unfold f_X11_endOf
  refine gg_st (go_bipush d_X11_endOf_0 cb_m2 rfl) ?_
  refine gg_st (go_iload_n 0 d_X11_endOf_2 rfl rfl rfl) ?_
  refine gg_st (go_isub d_X11_endOf_3 rfl) ?_
  exact gg_iret rfl d_X11_endOf_4 rfl
def f_X4_wireOf (a : Nat) (p1 : Int32) (σ : St) : Option (Int32) :=
  Option.bind (some (f_X11_isInside p1 (3200 : Int32))) fun x1 =>
  if x1 = 0 then (
    Option.bind (some (f_X11_endOf p1)) fun x5 =>
    Option.bind (some (f_X11_isInside x5 (8 : Int32))) fun x6 =>
    if x6 = 0 then (
      some (-1 : Int32))
    else (
      Option.bind (some (f_X11_endOf p1)) fun x9 =>
      if inb x9 8 then (
        some (σ.1 (a + 3) (ix x9)))
      else none))
  else (
    if inb p1 3200 then (
      some (σ.1 (a + 2) (ix p1)))
    else none)
set_option maxRecDepth 20000 in
theorem k_X4_wireOf (l : Launch) (w : Wo) {a : Nat} (ha : a ∈ st39_43_47_51_77) (p1 : Int32) (σ : St) : K l w shC m_X4_wireOf 2 [.ref a, .int p1] σ (f_X4_wireOf a p1 σ) (rI σ) := by
  refine k_of (L := [some (.ref a), some (.int p1)]) (plainFor_of_name (by decide +kernel)) 0 rfl (Nat.le_of_ble_eq_true rfl) ?_
  unfold f_X4_wireOf
  refine gg_st (go_iload_n 1 d_X4_wireOf_0 rfl rfl rfl) ?_
  refine gg_st (go_aload_n 0 d_X4_wireOf_1 rfl rfl rfl) ?_
  refine gg_st (go_getR (j := 1) cf4 (sC_st39_43_47_51_77_0 ha) rfl (by decide) fl_X4_15 d_X4_wireOf_2 rfl) ?_
  refine gg_st (go_alen (sC_st39_43_47_51_77_2 ha) (v := (3200 : Int32)) (by decide) d_X4_wireOf_5 rfl) ?_
  refine gs_I (k_X11_isInside l w p1 (3200 : Int32) σ) cs_X4_46 (Nat.le_of_ble_eq_true rfl) rfl rfl (Nat.le_of_ble_eq_true rfl) d_X4_wireOf_6 rfl (fun x1 => ?_)
  refine gg_br (br_if_eq (tgt := 19) (pc' := 12) d_X4_wireOf_9 (by decide) rfl) (fun h4 => ?_) (fun h4 => ?_)
  · refine gg_st (go_iload_n 1 d_X4_wireOf_19 rfl rfl rfl) ?_
    refine gs_I (k_X11_endOf l w p1 σ) cs_X4_63 (Nat.le_of_ble_eq_true rfl) rfl rfl (Nat.le_of_ble_eq_true rfl) d_X4_wireOf_20 rfl (fun x5 => ?_)
    refine gg_st (go_aload_n 0 d_X4_wireOf_23 rfl rfl rfl) ?_
    refine gg_st (go_getR (j := 2) cf4 (sC_st39_43_47_51_77_0 ha) rfl (by decide) fl_X4_18 d_X4_wireOf_24 rfl) ?_
    refine gg_st (go_alen (sC_st39_43_47_51_77_3 ha) (v := (8 : Int32)) (by decide) d_X4_wireOf_27 rfl) ?_
    refine gs_I (k_X11_isInside l w x5 (8 : Int32) σ) cs_X4_46 (Nat.le_of_ble_eq_true rfl) rfl rfl (Nat.le_of_ble_eq_true rfl) d_X4_wireOf_28 rfl (fun x6 => ?_)
    refine gg_br (br_if_eq (tgt := 46) (pc' := 34) d_X4_wireOf_31 (by decide) rfl) (fun h8 => ?_) (fun h8 => ?_)
    · refine gg_st (go_iconst d_X4_wireOf_46 ci_m1 rfl) ?_
      exact gg_iret rfl d_X4_wireOf_47 rfl
    · refine gg_st (go_aload_n 0 d_X4_wireOf_34 rfl rfl rfl) ?_
      refine gg_st (go_getR (j := 2) cf4 (sC_st39_43_47_51_77_0 ha) rfl (by decide) fl_X4_18 d_X4_wireOf_35 rfl) ?_
      refine gg_st (go_iload_n 1 d_X4_wireOf_38 rfl rfl rfl) ?_
      refine gs_I (k_X11_endOf l w p1 σ) cs_X4_63 (Nat.le_of_ble_eq_true rfl) rfl rfl (Nat.le_of_ble_eq_true rfl) d_X4_wireOf_39 rfl (fun x9 => ?_)
      refine gg_gd (fun h10 => ?_)
      refine gg_st (go_iald (sC_st39_43_47_51_77_3 ha) h10 d_X4_wireOf_42 rfl) ?_
      refine gg_st (go_goto (pc' := 47) d_X4_wireOf_43 (by decide)) ?_
      exact gg_iret rfl d_X4_wireOf_47 rfl
  · refine gg_st (go_aload_n 0 d_X4_wireOf_12 rfl rfl rfl) ?_
    refine gg_st (go_getR (j := 1) cf4 (sC_st39_43_47_51_77_0 ha) rfl (by decide) fl_X4_15 d_X4_wireOf_13 rfl) ?_
    refine gg_st (go_iload_n 1 d_X4_wireOf_16 rfl rfl rfl) ?_
    refine gg_gd (fun h11 => ?_)
    refine gg_st (go_iald (sC_st39_43_47_51_77_2 ha) h11 d_X4_wireOf_17 rfl) ?_
    exact gg_iret rfl d_X4_wireOf_18 rfl
def f_X10_goThrough_L14 (F : Nat) (a : Nat) (b : Nat) (c3 : Int32) (c4 : Int32) : Nat → Int32 → St → Option (St)
  | 0, _, _ => none
  | n + 1, v3, g =>
    if v3 < c4 then (
      Option.bind (some (f_X11_portCode c3 v3)) fun x5 =>
      Option.bind (f_X4_wireOf b x5 g) fun x6 =>
      Option.bind (f_X10_reach a x6 g) fun s7 =>
      f_X10_goThrough_L14 F a b c3 c4 n (v3 + (1 : Int32)) s7)
    else (
      some g)
def f_X10_goThrough (F : Nat) (a : Nat) (b : Nat) (p1 : Int32) (σ : St) : Option (St) :=
  Option.bind (f_X4_kindOf b p1 σ) fun x1 =>
  Option.bind (f_X3_portsOf (65) x1 σ) fun x2 =>
  Option.bind (f_X10_goThrough_L14 F a b p1 x2 F (0 : Int32) σ) fun t8 =>
  some t8
set_option maxRecDepth 20000 in
theorem g_f_X10_goThrough_L14 (l : Launch) (w : Wo) (F : Nat) {a : Nat} (ha : a ∈ st56_59) {b : Nat} (hb : b ∈ st39_43_47_51_77) (c3 : Int32) (c4 : Int32) : ∀ (n : Nat) (v3 : Int32) (g : St), GG l w shC m_X10_goThrough 3 14 [some (.ref a), some (.ref b), none, some (.int c3), some (.int c4), some (.int v3)] [] g (f_X10_goThrough_L14 F a b c3 c4 n v3 g) (fun (t : St) => .inl (41, [none, none, none, none, none, none], [], t)) := by
  intro n
  induction n with
  | zero =>
    intro v3 g
    exact gg_none
  | succ n ih =>
    intro v3 g
    rw [f_X10_goThrough_L14]
    refine gg_st (go_iload 5 d_X10_goThrough_14 rfl rfl) ?_
    refine gg_st (go_iload 4 d_X10_goThrough_16 rfl rfl) ?_
    refine gg_br (br_icmp_ge (tgt := 41) (pc' := 21) d_X10_goThrough_18 (by decide) rfl) (fun h4 => ?_) (fun h4 => ?_)
    · refine gg_st (go_aload_n 0 d_X10_goThrough_21 rfl rfl rfl) ?_
      refine gg_st (go_aload_n 1 d_X10_goThrough_22 rfl rfl rfl) ?_
      refine gg_st (go_iload_n 3 d_X10_goThrough_23 rfl rfl rfl) ?_
      refine gg_st (go_iload 5 d_X10_goThrough_24 rfl rfl) ?_
      refine gs_I (k_X11_portCode l w c3 v3 g) cs_X10_56 (Nat.le_of_ble_eq_true rfl) rfl rfl (Nat.le_of_ble_eq_true rfl) d_X10_goThrough_26 rfl (fun x5 => ?_)
      refine gv_I (k_X4_wireOf l w hb x5 g) cv_X10_37 (sC_st39_43_47_51_77_0 hb) (Nat.le_of_ble_eq_true rfl) rfl rfl (Nat.le_of_ble_eq_true rfl) d_X10_goThrough_29 rfl (fun x6 => ?_)
      refine gv_V (k_X10_reach l w ha x6 g) cv_X10_40 (sC_st56_59_0 ha) (Nat.le_of_ble_eq_true rfl) rfl rfl (Nat.le_of_ble_eq_true rfl) d_X10_goThrough_32 rfl (fun s7 => ?_)
      refine gg_st (go_iinc 5 d_X10_goThrough_35 rfl (v := v3 + (1 : Int32)) (by rw [ci_1]) (by decide) (L' := [some (.ref a), some (.ref b), none, some (.int c3), some (.int c4), some (.int (v3 + (1 : Int32)))]) rfl rfl) ?_
      refine gg_st (go_goto (pc' := 14) d_X10_goThrough_38 (by decide)) ?_
      exact ih (v3 + (1 : Int32)) s7
    · refine gg_st (go_fg [none, none, none, none, none, none] trivial) ?_
      exact gg_end rfl
set_option maxRecDepth 20000 in
theorem k_X10_goThrough (l : Launch) (w : Wo) (F : Nat) {a : Nat} (ha : a ∈ st56_59) {b : Nat} (hb : b ∈ st39_43_47_51_77) (p1 : Int32) (σ : St) : K l w shC m_X10_goThrough 3 [.ref a, .ref b, .ref (65), .int p1] σ (f_X10_goThrough F a b p1 σ) (rV) := by
  refine k_of (L := [some (.ref a), some (.ref b), some (.ref (65)), some (.int p1), none, none]) (plainFor_of_name (by decide +kernel)) 2 rfl (Nat.le_of_ble_eq_true rfl) ?_
  unfold f_X10_goThrough
  refine gg_st (go_aload_n 2 d_X10_goThrough_0 rfl rfl rfl) ?_
  refine gg_st (go_aload_n 1 d_X10_goThrough_1 rfl rfl rfl) ?_
  refine gg_st (go_iload_n 3 d_X10_goThrough_2 rfl rfl rfl) ?_
  refine gv_I (k_X4_kindOf l w hb p1 σ) cv_X10_48 (sC_st39_43_47_51_77_0 hb) (Nat.le_of_ble_eq_true rfl) rfl rfl (Nat.le_of_ble_eq_true rfl) d_X10_goThrough_3 rfl (fun x1 => ?_)
  refine gv_I (k_X3_portsOf l w (show 65 ∈ st15_65 by decide) x1 σ) cv_X10_51 sC_65 (Nat.le_of_ble_eq_true rfl) rfl rfl (Nat.le_of_ble_eq_true rfl) d_X10_goThrough_6 rfl (fun x2 => ?_)
  refine gg_st (go_istore 4 d_X10_goThrough_9 (by decide) (L' := [some (.ref a), some (.ref b), some (.ref (65)), some (.int p1), some (.int x2), none]) rfl rfl) ?_
  refine gg_st (go_iconst d_X10_goThrough_11 ci_0 rfl) ?_
  refine gg_st (go_istore 5 d_X10_goThrough_12 (by decide) (L' := [some (.ref a), some (.ref b), some (.ref (65)), some (.int p1), some (.int x2), some (.int (0 : Int32))]) rfl rfl) ?_
  refine gg_st (go_fg [some (.ref a), some (.ref b), none, some (.int p1), some (.int x2), some (.int (0 : Int32))] ⟨rfl, ⟨rfl, ⟨rfl, ⟨rfl, ⟨rfl, trivial⟩⟩⟩⟩⟩) ?_
  refine gg_bind 41 (fun (t8 : St) => [none, none, none, none, none, none]) (fun (t8 : St) => []) (fun (t8 : St) => t8) (g_f_X10_goThrough_L14 l w F ha hb p1 x2 F (0 : Int32) σ) (fun t8 => ?_)
  exact gg_vret rfl d_X10_goThrough_41 rfl
def f_X10_numbered (a : Nat) (p1 : Int32) (σ : St) : Option (Int32) :=
  if (0 ≤ p1) ∧ (¬ ((f_X11_isInside (f_X11_agentOf p1) (400 : Int32)) = 0)) then (
    Option.bind (some (f_X11_agentOf p1)) fun x2 =>
    if inb x2 400 then (
      Option.bind (some (f_X11_portOf p1)) fun x4 =>
      Option.bind (some (f_X11_portCode (σ.1 (a + 2) (ix x2)) x4)) fun x5 =>
      some x5)
    else none)
  else (
    some p1)
set_option maxRecDepth 20000 in
theorem k_X10_numbered (l : Launch) (w : Wo) {a : Nat} (ha : a ∈ st56_59) (p1 : Int32) (σ : St) : K l w shC m_X10_numbered 2 [.ref a, .int p1] σ (f_X10_numbered a p1 σ) (rI σ) := by
  refine k_of (L := [some (.ref a), some (.int p1)]) (plainFor_of_name (by decide +kernel)) 0 rfl (Nat.le_of_ble_eq_true rfl) ?_
  unfold f_X10_numbered
  refine gg_st (go_iload_n 1 d_X10_numbered_0 rfl rfl rfl) ?_
  refine gg_two (c := (0 ≤ p1) ∧ (¬ ((f_X11_isInside (f_X11_agentOf p1) (400 : Int32)) = 0))) (pA := 19) (pB := 17) (LL := [some (.ref a), some (.int p1)]) (ss := []) ?_ ?_ (fun hA6 hB7 => ?_)
  · refine gg_st (go_aload_n 0 d_X10_numbered_19 rfl rfl rfl) ?_
    refine gg_st (go_getR (j := 1) cf10 (sC_st56_59_0 ha) rfl (by decide) fl_X10_15 d_X10_numbered_20 rfl) ?_
    refine gg_st (go_iload_n 1 d_X10_numbered_23 rfl rfl rfl) ?_
    refine gs_I (k_X11_agentOf l w p1 σ) cs_X10_60 (Nat.le_of_ble_eq_true rfl) rfl rfl (Nat.le_of_ble_eq_true rfl) d_X10_numbered_24 rfl (fun x2 => ?_)
    refine gg_gd (fun h3 => ?_)
    refine gg_st (go_iald (sC_st56_59_2 ha) h3 d_X10_numbered_27 rfl) ?_
    refine gg_st (go_iload_n 1 d_X10_numbered_28 rfl rfl rfl) ?_
    refine gs_I (k_X11_portOf l w p1 σ) cs_X10_88 (Nat.le_of_ble_eq_true rfl) rfl rfl (Nat.le_of_ble_eq_true rfl) d_X10_numbered_29 rfl (fun x4 => ?_)
    refine gs_I (k_X11_portCode l w (σ.1 (a + 2) (ix x2)) x4 σ) cs_X10_56 (Nat.le_of_ble_eq_true rfl) rfl rfl (Nat.le_of_ble_eq_true rfl) d_X10_numbered_32 rfl (fun x5 => ?_)
    exact gg_iret rfl d_X10_numbered_35 rfl
  · refine gg_st (go_iload_n 1 d_X10_numbered_17 rfl rfl rfl) ?_
    exact gg_iret rfl d_X10_numbered_18 rfl
  refine gg_brs (br_if_lt (tgt := 17) (pc' := 4) d_X10_numbered_1 (by decide) rfl) (fun h8 => ?_) (fun h8 => ?_)
  · refine gg_st (go_iload_n 1 d_X10_numbered_4 rfl rfl rfl) ?_
    refine gg_st (go_sI (k_X11_agentOf l w p1 σ) cs_X10_60 (Nat.le_of_ble_eq_true rfl) rfl rfl (Nat.le_of_ble_eq_true rfl) d_X10_numbered_5 rfl) ?_
    refine gg_st (go_sipush d_X10_numbered_8 cs_400 rfl) ?_
    refine gg_st (go_sI (k_X11_isInside l w (f_X11_agentOf p1) (400 : Int32) σ) cs_X10_63 (Nat.le_of_ble_eq_true rfl) rfl rfl (Nat.le_of_ble_eq_true rfl) d_X10_numbered_11 rfl) ?_
    refine gg_brs (br_if_ne (tgt := 19) (pc' := 17) d_X10_numbered_14 (by decide) rfl) (fun h9 => ?_) (fun h9 => ?_)
    · exact gg_eq (if_neg (fun z => (fun z => z h9) z.2)) hB7
    · exact gg_eq (if_pos ⟨h8, h9⟩) hA6
  · exact gg_eq (if_neg (fun z => h8 z.1)) hB7
def f_X10_hasSameAgents_L71 (F : Nat) (a : Nat) (c5 : Int32) (c6 : Int32) (c7 : Int32) (c8 : Int32) (σ : St) (k0 : Unit → Option (Int32)) : Nat → Int32 → Option (Int32)
  | 0, _ => none
  | n + 1, v12 =>
    if v12 < c8 then (
      Option.bind (some (f_X11_portCode c6 v12)) fun x14 =>
      Option.bind (f_X4_wireOf (77) x14 σ) fun x15 =>
      Option.bind (f_X10_numbered (56) x15 σ) fun x16 =>
      Option.bind (some (f_X11_portCode c7 v12)) fun x17 =>
      Option.bind (f_X4_wireOf a x17 σ) fun x18 =>
      Option.bind (f_X10_numbered (59) x18 σ) fun x19 =>
      if x16 = x19 then (
        f_X10_hasSameAgents_L71 F a c5 c6 c7 c8 σ k0 n (v12 + (1 : Int32)))
      else (
        some (0 : Int32)))
    else (
      k0 ())
def f_X10_hasSameAgents_L3 (F : Nat) (a : Nat) (σ : St) : Nat → Int32 → Option (Int32)
  | 0, _ => none
  | n + 1, v1 =>
    if (v1 < (σ.1 (56) 2)) ∧ (v1 < (400 : Int32)) then (
      if inb v1 400 then (
        Option.bind (some (σ.1 (57) (ix v1))) fun x4 =>
        if inb v1 400 then (
          Option.bind (some (σ.1 (60) (ix v1))) fun x6 =>
          Option.bind (f_X4_kindOf (77) x4 σ) fun x7 =>
          Option.bind (f_X4_kindOf a x6 σ) fun x8 =>
          if x7 = x8 then (
            Option.bind (f_X4_kindOf (77) x4 σ) fun x10 =>
            Option.bind (f_X3_portsOf (65) x10 σ) fun x11 =>
            f_X10_hasSameAgents_L71 F a v1 x4 x6 x11 σ
              (fun (t21 : Unit) =>
                f_X10_hasSameAgents_L3 F a σ n (v1 + (1 : Int32))) F (0 : Int32))
          else (
            some (0 : Int32)))
        else none)
      else none)
    else (
      some (1 : Int32))
def f_X10_hasSameAgents (F : Nat) (a : Nat) (σ : St) : Option (Int32) :=
  f_X10_hasSameAgents_L3 F a σ F (0 : Int32)
set_option maxRecDepth 20000 in
theorem g_f_X10_hasSameAgents_L71 (l : Launch) (w : Wo) (F : Nat) {a : Nat} (ha : a ∈ st39_43_47_51) (c5 : Int32) (c6 : Int32) (c7 : Int32) (c8 : Int32) (σ : St) (k0 : Unit → Option (Int32)) (hk0 : ∀ t, GG l w shC m_X10_hasSameAgents 3 123 [some (.ref (56)), some (.ref (77)), some (.ref (59)), some (.ref a), some (.ref (65)), some (.int c5), none, none, none, none, none] [] σ (k0 t) (fun q => .inr ((rI σ) q))) : ∀ (n : Nat) (v12 : Int32), GG l w shC m_X10_hasSameAgents 3 71 [some (.ref (56)), some (.ref (77)), some (.ref (59)), some (.ref a), some (.ref (65)), some (.int c5), some (.int c6), some (.int c7), some (.int c8), some (.int v12), none] [] σ (f_X10_hasSameAgents_L71 F a c5 c6 c7 c8 σ k0 n v12) (fun q => .inr ((rI σ) q)) := by
  intro n
  induction n with
  | zero =>
    intro v12
    exact gg_none
  | succ n ih =>
    intro v12
    rw [f_X10_hasSameAgents_L71]
    refine gg_st (go_iload 9 d_X10_hasSameAgents_71 rfl rfl) ?_
    refine gg_st (go_iload 8 d_X10_hasSameAgents_73 rfl rfl) ?_
    refine gg_br (br_icmp_ge (tgt := 123) (pc' := 78) d_X10_hasSameAgents_75 (by decide) rfl) (fun h13 => ?_) (fun h13 => ?_)
    · refine gg_st (go_aload_n 0 d_X10_hasSameAgents_78 rfl rfl rfl) ?_
      refine gg_st (go_aload_n 1 d_X10_hasSameAgents_79 rfl rfl rfl) ?_
      refine gg_st (go_iload 6 d_X10_hasSameAgents_80 rfl rfl) ?_
      refine gg_st (go_iload 9 d_X10_hasSameAgents_82 rfl rfl) ?_
      refine gs_I (k_X11_portCode l w c6 v12 σ) cs_X10_56 (Nat.le_of_ble_eq_true rfl) rfl rfl (Nat.le_of_ble_eq_true rfl) d_X10_hasSameAgents_84 rfl (fun x14 => ?_)
      refine gv_I (k_X4_wireOf l w (show 77 ∈ st39_43_47_51_77 by decide) x14 σ) cv_X10_37 sC_77 (Nat.le_of_ble_eq_true rfl) rfl rfl (Nat.le_of_ble_eq_true rfl) d_X10_hasSameAgents_87 rfl (fun x15 => ?_)
      refine gv_I (k_X10_numbered l w (show 56 ∈ st56_59 by decide) x15 σ) cv_X10_85 sC_56 (Nat.le_of_ble_eq_true rfl) rfl rfl (Nat.le_of_ble_eq_true rfl) d_X10_hasSameAgents_90 rfl (fun x16 => ?_)
      refine gg_st (go_istore 10 d_X10_hasSameAgents_93 (by decide) (L' := [some (.ref (56)), some (.ref (77)), some (.ref (59)), some (.ref a), some (.ref (65)), some (.int c5), some (.int c6), some (.int c7), some (.int c8), some (.int v12), some (.int x16)]) rfl rfl) ?_
      refine gg_st (go_iload 10 d_X10_hasSameAgents_95 rfl rfl) ?_
      refine gg_st (go_aload_n 2 d_X10_hasSameAgents_97 rfl rfl rfl) ?_
      refine gg_st (go_aload_n 3 d_X10_hasSameAgents_98 rfl rfl rfl) ?_
      refine gg_st (go_iload 7 d_X10_hasSameAgents_99 rfl rfl) ?_
      refine gg_st (go_iload 9 d_X10_hasSameAgents_101 rfl rfl) ?_
      refine gs_I (k_X11_portCode l w c7 v12 σ) cs_X10_56 (Nat.le_of_ble_eq_true rfl) rfl rfl (Nat.le_of_ble_eq_true rfl) d_X10_hasSameAgents_103 rfl (fun x17 => ?_)
      refine gv_I (k_X4_wireOf l w (sub_st39_43_47_51_st39_43_47_51_77 _ ha) x17 σ) cv_X10_37 (sC_st39_43_47_51_0 ha) (Nat.le_of_ble_eq_true rfl) rfl rfl (Nat.le_of_ble_eq_true rfl) d_X10_hasSameAgents_106 rfl (fun x18 => ?_)
      refine gv_I (k_X10_numbered l w (show 59 ∈ st56_59 by decide) x18 σ) cv_X10_85 sC_59 (Nat.le_of_ble_eq_true rfl) rfl rfl (Nat.le_of_ble_eq_true rfl) d_X10_hasSameAgents_109 rfl (fun x19 => ?_)
      refine gg_br (br_icmp_eq (tgt := 117) (pc' := 115) d_X10_hasSameAgents_112 (by decide) rfl) (fun h20 => ?_) (fun h20 => ?_)
      · refine gg_st (go_iinc 9 d_X10_hasSameAgents_117 rfl (v := v12 + (1 : Int32)) (by rw [ci_1]) (by decide) (L' := [some (.ref (56)), some (.ref (77)), some (.ref (59)), some (.ref a), some (.ref (65)), some (.int c5), some (.int c6), some (.int c7), some (.int c8), some (.int (v12 + (1 : Int32))), some (.int x16)]) rfl rfl) ?_
        refine gg_st (go_goto (pc' := 71) d_X10_hasSameAgents_120 (by decide)) ?_
        refine gg_st (go_fg [some (.ref (56)), some (.ref (77)), some (.ref (59)), some (.ref a), some (.ref (65)), some (.int c5), some (.int c6), some (.int c7), some (.int c8), some (.int (v12 + (1 : Int32))), none] ⟨rfl, ⟨rfl, ⟨rfl, ⟨rfl, ⟨rfl, ⟨rfl, ⟨rfl, ⟨rfl, ⟨rfl, ⟨rfl, trivial⟩⟩⟩⟩⟩⟩⟩⟩⟩⟩) ?_
        exact ih (v12 + (1 : Int32))
      · refine gg_st (go_iconst d_X10_hasSameAgents_115 ci_0 rfl) ?_
        exact gg_zret (Or.inl rfl) rfl d_X10_hasSameAgents_116 rfl
    · refine gg_st (go_fg [some (.ref (56)), some (.ref (77)), some (.ref (59)), some (.ref a), some (.ref (65)), some (.int c5), none, none, none, none, none] ⟨rfl, ⟨rfl, ⟨rfl, ⟨rfl, ⟨rfl, ⟨rfl, trivial⟩⟩⟩⟩⟩⟩) ?_
      exact hk0 ()
set_option maxRecDepth 20000 in
theorem g_f_X10_hasSameAgents_L3 (l : Launch) (w : Wo) (F : Nat) {a : Nat} (ha : a ∈ st39_43_47_51) (σ : St) : ∀ (n : Nat) (v1 : Int32), GG l w shC m_X10_hasSameAgents 3 3 [some (.ref (56)), some (.ref (77)), some (.ref (59)), some (.ref a), some (.ref (65)), some (.int v1), none, none, none, none, none] [] σ (f_X10_hasSameAgents_L3 F a σ n v1) (fun q => .inr ((rI σ) q)) := by
  intro n
  induction n with
  | zero =>
    intro v1
    exact gg_none
  | succ n ih =>
    intro v1
    rw [f_X10_hasSameAgents_L3]
    refine gg_st (go_iload 5 d_X10_hasSameAgents_3 rfl rfl) ?_
    refine gg_st (go_aload_n 0 d_X10_hasSameAgents_5 rfl rfl rfl) ?_
    refine gg_st (go_getI (j := 2) cf10 sC_56 rfl (by decide) fl_X10_24 d_X10_hasSameAgents_6 rfl) ?_
    refine gg_two (c := (v1 < (σ.1 (56) 2)) ∧ (v1 < (400 : Int32))) (pA := 20) (pB := 129) (LL := [some (.ref (56)), some (.ref (77)), some (.ref (59)), some (.ref a), some (.ref (65)), some (.int v1), none, none, none, none, none]) (ss := []) ?_ ?_ (fun hA22 hB23 => ?_)
    · refine gg_st (go_aload_n 0 d_X10_hasSameAgents_20 rfl rfl rfl) ?_
      refine gg_st (go_getR (j := 0) cf10 sC_56 rfl (by decide) fl_X10_9 d_X10_hasSameAgents_21 rfl) ?_
      refine gg_st (go_iload 5 d_X10_hasSameAgents_24 rfl rfl) ?_
      refine gg_gd (fun h3 => ?_)
      refine gg_st (go_iald sC_57 h3 d_X10_hasSameAgents_26 rfl) ?_
      refine gg_nm (fun _ => [some (.ref (56)), some (.ref (77)), some (.ref (59)), some (.ref a), some (.ref (65)), some (.int v1), none, none, none, none, none]) (fun (x4 : Int32) => [.int x4]) (fun x4 => ?_)
      refine gg_st (go_istore 6 d_X10_hasSameAgents_27 (by decide) (L' := [some (.ref (56)), some (.ref (77)), some (.ref (59)), some (.ref a), some (.ref (65)), some (.int v1), some (.int x4), none, none, none, none]) rfl rfl) ?_
      refine gg_st (go_aload_n 2 d_X10_hasSameAgents_29 rfl rfl rfl) ?_
      refine gg_st (go_getR (j := 0) cf10 sC_59 rfl (by decide) fl_X10_9 d_X10_hasSameAgents_30 rfl) ?_
      refine gg_st (go_iload 5 d_X10_hasSameAgents_33 rfl rfl) ?_
      refine gg_gd (fun h5 => ?_)
      refine gg_st (go_iald sC_60 h5 d_X10_hasSameAgents_35 rfl) ?_
      refine gg_nm (fun _ => [some (.ref (56)), some (.ref (77)), some (.ref (59)), some (.ref a), some (.ref (65)), some (.int v1), some (.int x4), none, none, none, none]) (fun (x6 : Int32) => [.int x6]) (fun x6 => ?_)
      refine gg_st (go_istore 7 d_X10_hasSameAgents_36 (by decide) (L' := [some (.ref (56)), some (.ref (77)), some (.ref (59)), some (.ref a), some (.ref (65)), some (.int v1), some (.int x4), some (.int x6), none, none, none]) rfl rfl) ?_
      refine gg_st (go_aload_n 1 d_X10_hasSameAgents_38 rfl rfl rfl) ?_
      refine gg_st (go_iload 6 d_X10_hasSameAgents_39 rfl rfl) ?_
      refine gv_I (k_X4_kindOf l w (show 77 ∈ st39_43_47_51_77 by decide) x4 σ) cv_X10_48 sC_77 (Nat.le_of_ble_eq_true rfl) rfl rfl (Nat.le_of_ble_eq_true rfl) d_X10_hasSameAgents_41 rfl (fun x7 => ?_)
      refine gg_st (go_aload_n 3 d_X10_hasSameAgents_44 rfl rfl rfl) ?_
      refine gg_st (go_iload 7 d_X10_hasSameAgents_45 rfl rfl) ?_
      refine gv_I (k_X4_kindOf l w (sub_st39_43_47_51_st39_43_47_51_77 _ ha) x6 σ) cv_X10_48 (sC_st39_43_47_51_0 ha) (Nat.le_of_ble_eq_true rfl) rfl rfl (Nat.le_of_ble_eq_true rfl) d_X10_hasSameAgents_47 rfl (fun x8 => ?_)
      refine gg_br (br_icmp_eq (tgt := 55) (pc' := 53) d_X10_hasSameAgents_50 (by decide) rfl) (fun h9 => ?_) (fun h9 => ?_)
      · refine gg_st (go_aload 4 d_X10_hasSameAgents_55 rfl rfl) ?_
        refine gg_st (go_aload_n 1 d_X10_hasSameAgents_57 rfl rfl rfl) ?_
        refine gg_st (go_iload 6 d_X10_hasSameAgents_58 rfl rfl) ?_
        refine gv_I (k_X4_kindOf l w (show 77 ∈ st39_43_47_51_77 by decide) x4 σ) cv_X10_48 sC_77 (Nat.le_of_ble_eq_true rfl) rfl rfl (Nat.le_of_ble_eq_true rfl) d_X10_hasSameAgents_60 rfl (fun x10 => ?_)
        refine gv_I (k_X3_portsOf l w (show 65 ∈ st15_65 by decide) x10 σ) cv_X10_51 sC_65 (Nat.le_of_ble_eq_true rfl) rfl rfl (Nat.le_of_ble_eq_true rfl) d_X10_hasSameAgents_63 rfl (fun x11 => ?_)
        refine gg_st (go_istore 8 d_X10_hasSameAgents_66 (by decide) (L' := [some (.ref (56)), some (.ref (77)), some (.ref (59)), some (.ref a), some (.ref (65)), some (.int v1), some (.int x4), some (.int x6), some (.int x11), none, none]) rfl rfl) ?_
        refine gg_st (go_iconst d_X10_hasSameAgents_68 ci_0 rfl) ?_
        refine gg_st (go_istore 9 d_X10_hasSameAgents_69 (by decide) (L' := [some (.ref (56)), some (.ref (77)), some (.ref (59)), some (.ref a), some (.ref (65)), some (.int v1), some (.int x4), some (.int x6), some (.int x11), some (.int (0 : Int32)), none]) rfl rfl) ?_
        refine g_f_X10_hasSameAgents_L71 l w F ha v1 x4 x6 x11 σ _ (fun t21 => ?_) F (0 : Int32)
        refine gg_st (go_iinc 5 d_X10_hasSameAgents_123 rfl (v := v1 + (1 : Int32)) (by rw [ci_1]) (by decide) (L' := [some (.ref (56)), some (.ref (77)), some (.ref (59)), some (.ref a), some (.ref (65)), some (.int (v1 + (1 : Int32))), none, none, none, none, none]) rfl rfl) ?_
        refine gg_st (go_goto (pc' := 3) d_X10_hasSameAgents_126 (by decide)) ?_
        exact ih (v1 + (1 : Int32))
      · refine gg_st (go_iconst d_X10_hasSameAgents_53 ci_0 rfl) ?_
        exact gg_zret (Or.inl rfl) rfl d_X10_hasSameAgents_54 rfl
    · refine gg_st (go_iconst d_X10_hasSameAgents_129 ci_1 rfl) ?_
      exact gg_zret (Or.inr rfl) rfl d_X10_hasSameAgents_130 rfl
    refine gg_brs (br_icmp_ge (tgt := 129) (pc' := 12) d_X10_hasSameAgents_9 (by decide) rfl) (fun h24 => ?_) (fun h24 => ?_)
    · refine gg_st (go_iload 5 d_X10_hasSameAgents_12 rfl rfl) ?_
      refine gg_st (go_sipush d_X10_hasSameAgents_14 cs_400 rfl) ?_
      refine gg_brs (br_icmp_ge (tgt := 129) (pc' := 20) d_X10_hasSameAgents_17 (by decide) rfl) (fun h25 => ?_) (fun h25 => ?_)
      · exact gg_eq (if_pos ⟨h24, h25⟩) hA22
      · exact gg_eq (if_neg (fun z => h25 z.2)) hB23
    · exact gg_eq (if_neg (fun z => h24 z.1)) hB23
set_option maxRecDepth 20000 in
theorem k_X10_hasSameAgents (l : Launch) (w : Wo) (F : Nat) {a : Nat} (ha : a ∈ st39_43_47_51) (σ : St) : K l w shC m_X10_hasSameAgents 3 [.ref (56), .ref (77), .ref (59), .ref a, .ref (65)] σ (f_X10_hasSameAgents F a σ) (rI σ) := by
  refine k_of (L := [some (.ref (56)), some (.ref (77)), some (.ref (59)), some (.ref a), some (.ref (65)), none, none, none, none, none, none]) (plainFor_of_name (by decide +kernel)) 6 rfl (Nat.le_of_ble_eq_true rfl) ?_
  unfold f_X10_hasSameAgents
  refine gg_st (go_iconst d_X10_hasSameAgents_0 ci_0 rfl) ?_
  refine gg_st (go_istore 5 d_X10_hasSameAgents_1 (by decide) (L' := [some (.ref (56)), some (.ref (77)), some (.ref (59)), some (.ref a), some (.ref (65)), some (.int (0 : Int32)), none, none, none, none, none]) rfl rfl) ?_
  refine g_f_X10_hasSameAgents_L3 l w F ha σ  F (0 : Int32)
def f_X4_countOfKind_L4 (F : Nat) (a : Nat) (c1 : Int32) (σ : St) : Nat → Int32 → Int32 → Option (Int32)
  | 0, _, _ => none
  | n + 1, v1, v2 =>
    if (v2 < (σ.1 a 6)) ∧ (v2 < (400 : Int32)) then (
      if inb v2 400 then (
        Option.bind (
          if (σ.1 (a + 1) (ix v2)) = c1 then (
            Option.bind (some (v1 + (1 : Int32))) fun x7 =>
            some x7)
          else (
            some v1)) fun t5 =>
        f_X4_countOfKind_L4 F a c1 σ n t5 (v2 + (1 : Int32)))
      else none)
    else (
      some v1)
def f_X4_countOfKind (F : Nat) (a : Nat) (p1 : Int32) (σ : St) : Option (Int32) :=
  Option.bind (f_X4_countOfKind_L4 F a p1 σ F (0 : Int32) (0 : Int32)) fun t12 =>
  some t12
set_option maxRecDepth 20000 in
theorem g_f_X4_countOfKind_L4 (l : Launch) (w : Wo) (F : Nat) {a : Nat} (ha : a ∈ st39_43_47_51_77) (c1 : Int32) (σ : St) : ∀ (n : Nat) (v1 : Int32) (v2 : Int32), GG l w shC m_X4_countOfKind 1 4 [some (.ref a), some (.int c1), some (.int v1), some (.int v2)] [] σ (f_X4_countOfKind_L4 F a c1 σ n v1 v2) (fun (t : Int32) => .inl (38, [none, none, some (.int t), none], [], σ)) := by
  intro n
  induction n with
  | zero =>
    intro v1 v2
    exact gg_none
  | succ n ih =>
    intro v1 v2
    rw [f_X4_countOfKind_L4]
    refine gg_st (go_iload_n 3 d_X4_countOfKind_4 rfl rfl rfl) ?_
    refine gg_st (go_aload_n 0 d_X4_countOfKind_5 rfl rfl rfl) ?_
    refine gg_st (go_getI (j := 6) cf4 (sC_st39_43_47_51_77_0 ha) rfl (by decide) fl_X4_37 d_X4_countOfKind_6 rfl) ?_
    refine gg_two (c := (v2 < (σ.1 a 6)) ∧ (v2 < (400 : Int32))) (pA := 19) (pB := 38) (LL := [some (.ref a), some (.int c1), some (.int v1), some (.int v2)]) (ss := []) ?_ ?_ (fun hA8 hB9 => ?_)
    · refine gg_st (go_aload_n 0 d_X4_countOfKind_19 rfl rfl rfl) ?_
      refine gg_st (go_getR (j := 0) cf4 (sC_st39_43_47_51_77_0 ha) rfl (by decide) fl_X4_9 d_X4_countOfKind_20 rfl) ?_
      refine gg_st (go_iload_n 3 d_X4_countOfKind_23 rfl rfl rfl) ?_
      refine gg_gd (fun h4 => ?_)
      refine gg_st (go_iald (sC_st39_43_47_51_77_1 ha) h4 d_X4_countOfKind_24 rfl) ?_
      refine gg_st (go_iload_n 1 d_X4_countOfKind_25 rfl rfl rfl) ?_
      refine gg_bind 32 (fun (t5 : Int32) => [some (.ref a), some (.int c1), some (.int t5), some (.int v2)]) (fun (t5 : Int32) => []) (fun (t5 : Int32) => σ) ?_ (fun t5 => ?_)
      · refine gg_br (br_icmp_ne (tgt := 32) (pc' := 29) d_X4_countOfKind_26 (by decide) rfl) (fun h6 => ?_) (fun h6 => ?_)
        · refine gg_st (go_iinc 2 d_X4_countOfKind_29 rfl (v := v1 + (1 : Int32)) (by rw [ci_1]) (by decide) (L' := [some (.ref a), some (.int c1), some (.int (v1 + (1 : Int32))), some (.int v2)]) rfl rfl) ?_
          refine gg_nm (fun (x7 : Int32) => [some (.ref a), some (.int c1), some (.int x7), some (.int v2)]) (fun _ => []) (fun x7 => ?_)
          exact gg_end rfl
        · exact gg_end rfl
      · refine gg_st (go_iinc 3 d_X4_countOfKind_32 rfl (v := v2 + (1 : Int32)) (by rw [ci_1]) (by decide) (L' := [some (.ref a), some (.int c1), some (.int t5), some (.int (v2 + (1 : Int32)))]) rfl rfl) ?_
        refine gg_st (go_goto (pc' := 4) d_X4_countOfKind_35 (by decide)) ?_
        exact ih t5 (v2 + (1 : Int32))
    · refine gg_st (go_fg [none, none, some (.int v1), none] ⟨rfl, trivial⟩) ?_
      exact gg_end rfl
    refine gg_brs (br_icmp_ge (tgt := 38) (pc' := 12) d_X4_countOfKind_9 (by decide) rfl) (fun h10 => ?_) (fun h10 => ?_)
    · refine gg_st (go_iload_n 3 d_X4_countOfKind_12 rfl rfl rfl) ?_
      refine gg_st (go_sipush d_X4_countOfKind_13 cs_400 rfl) ?_
      refine gg_brs (br_icmp_ge (tgt := 38) (pc' := 19) d_X4_countOfKind_16 (by decide) rfl) (fun h11 => ?_) (fun h11 => ?_)
      · exact gg_eq (if_pos ⟨h10, h11⟩) hA8
      · exact gg_eq (if_neg (fun z => h11 z.2)) hB9
    · exact gg_eq (if_neg (fun z => h10 z.1)) hB9
set_option maxRecDepth 20000 in
theorem k_X4_countOfKind (l : Launch) (w : Wo) (F : Nat) {a : Nat} (ha : a ∈ st39_43_47_51_77) (p1 : Int32) (σ : St) : K l w shC m_X4_countOfKind 1 [.ref a, .int p1] σ (f_X4_countOfKind F a p1 σ) (rI σ) := by
  refine k_of (L := [some (.ref a), some (.int p1), none, none]) (plainFor_of_name (by decide +kernel)) 2 rfl (Nat.le_of_ble_eq_true rfl) ?_
  unfold f_X4_countOfKind
  refine gg_st (go_iconst d_X4_countOfKind_0 ci_0 rfl) ?_
  refine gg_st (go_istore_n 2 d_X4_countOfKind_1 rfl (by decide) (L' := [some (.ref a), some (.int p1), some (.int (0 : Int32)), none]) rfl rfl) ?_
  refine gg_st (go_iconst d_X4_countOfKind_2 ci_0 rfl) ?_
  refine gg_st (go_istore_n 3 d_X4_countOfKind_3 rfl (by decide) (L' := [some (.ref a), some (.int p1), some (.int (0 : Int32)), some (.int (0 : Int32))]) rfl rfl) ?_
  refine gg_bind 38 (fun (t12 : Int32) => [none, none, some (.int t12), none]) (fun (t12 : Int32) => []) (fun (t12 : Int32) => σ) (g_f_X4_countOfKind_L4 l w F ha p1 σ F (0 : Int32) (0 : Int32)) (fun t12 => ?_)
  refine gg_st (go_iload_n 2 d_X4_countOfKind_38 rfl rfl rfl) ?_
  exact gg_iret rfl d_X4_countOfKind_39 rfl
def f_X10_hasSameCounts_L2 (F : Nat) (a : Nat) (σ : St) : Nat → Int32 → Option (Int32)
  | 0, _ => none
  | n + 1, v1 =>
    if v1 < (16 : Int32) then (
      Option.bind (f_X4_countOfKind F (77) v1 σ) fun x3 =>
      Option.bind (f_X4_countOfKind F a v1 σ) fun x4 =>
      if x3 = x4 then (
        f_X10_hasSameCounts_L2 F a σ n (v1 + (1 : Int32)))
      else (
        some (0 : Int32)))
    else (
      some (1 : Int32))
def f_X10_hasSameCounts (F : Nat) (a : Nat) (σ : St) : Option (Int32) :=
  f_X10_hasSameCounts_L2 F a σ F (0 : Int32)
set_option maxRecDepth 20000 in
theorem g_f_X10_hasSameCounts_L2 (l : Launch) (w : Wo) (F : Nat) {a : Nat} (ha : a ∈ st39_43_47_51) (σ : St) : ∀ (n : Nat) (v1 : Int32), GG l w shC m_X10_hasSameCounts 2 2 [some (.ref (77)), some (.ref a), some (.int v1)] [] σ (f_X10_hasSameCounts_L2 F a σ n v1) (fun q => .inr ((rI σ) q)) := by
  intro n
  induction n with
  | zero =>
    intro v1
    exact gg_none
  | succ n ih =>
    intro v1
    rw [f_X10_hasSameCounts_L2]
    refine gg_st (go_iload_n 2 d_X10_hasSameCounts_2 rfl rfl rfl) ?_
    refine gg_st (go_bipush d_X10_hasSameCounts_3 cb_16 rfl) ?_
    refine gg_br (br_icmp_ge (tgt := 29) (pc' := 8) d_X10_hasSameCounts_5 (by decide) rfl) (fun h2 => ?_) (fun h2 => ?_)
    · refine gg_st (go_aload_n 0 d_X10_hasSameCounts_8 rfl rfl rfl) ?_
      refine gg_st (go_iload_n 2 d_X10_hasSameCounts_9 rfl rfl rfl) ?_
      refine gv_I (k_X4_countOfKind l w F (show 77 ∈ st39_43_47_51_77 by decide) v1 σ) cv_X10_82 sC_77 (Nat.le_of_ble_eq_true rfl) rfl rfl (Nat.le_of_ble_eq_true rfl) d_X10_hasSameCounts_10 rfl (fun x3 => ?_)
      refine gg_st (go_aload_n 1 d_X10_hasSameCounts_13 rfl rfl rfl) ?_
      refine gg_st (go_iload_n 2 d_X10_hasSameCounts_14 rfl rfl rfl) ?_
      refine gv_I (k_X4_countOfKind l w F (sub_st39_43_47_51_st39_43_47_51_77 _ ha) v1 σ) cv_X10_82 (sC_st39_43_47_51_0 ha) (Nat.le_of_ble_eq_true rfl) rfl rfl (Nat.le_of_ble_eq_true rfl) d_X10_hasSameCounts_15 rfl (fun x4 => ?_)
      refine gg_br (br_icmp_eq (tgt := 23) (pc' := 21) d_X10_hasSameCounts_18 (by decide) rfl) (fun h5 => ?_) (fun h5 => ?_)
      · refine gg_st (go_iinc 2 d_X10_hasSameCounts_23 rfl (v := v1 + (1 : Int32)) (by rw [ci_1]) (by decide) (L' := [some (.ref (77)), some (.ref a), some (.int (v1 + (1 : Int32)))]) rfl rfl) ?_
        refine gg_st (go_goto (pc' := 2) d_X10_hasSameCounts_26 (by decide)) ?_
        exact ih (v1 + (1 : Int32))
      · refine gg_st (go_iconst d_X10_hasSameCounts_21 ci_0 rfl) ?_
        exact gg_zret (Or.inl rfl) rfl d_X10_hasSameCounts_22 rfl
    · refine gg_st (go_iconst d_X10_hasSameCounts_29 ci_1 rfl) ?_
      exact gg_zret (Or.inr rfl) rfl d_X10_hasSameCounts_30 rfl
set_option maxRecDepth 20000 in
theorem k_X10_hasSameCounts (l : Launch) (w : Wo) (F : Nat) {a : Nat} (ha : a ∈ st39_43_47_51) (σ : St) : K l w shC m_X10_hasSameCounts 2 [.ref (77), .ref a] σ (f_X10_hasSameCounts F a σ) (rI σ) := by
  refine k_of (L := [some (.ref (77)), some (.ref a), none]) (plainFor_of_name (by decide +kernel)) 1 rfl (Nat.le_of_ble_eq_true rfl) ?_
  unfold f_X10_hasSameCounts
  refine gg_st (go_iconst d_X10_hasSameCounts_0 ci_0 rfl) ?_
  refine gg_st (go_istore_n 2 d_X10_hasSameCounts_1 rfl (by decide) (L' := [some (.ref (77)), some (.ref a), some (.int (0 : Int32))]) rfl rfl) ?_
  refine g_f_X10_hasSameCounts_L2 l w F ha σ  F (0 : Int32)
def f_X11_endCode (p1 : Int32) : Int32 :=
  (-2 : Int32) - p1
set_option maxRecDepth 20000 in
theorem k_X11_endCode (l : Launch) (w : Wo) (p1 : Int32) (σ : St) : K l w shC m_X11_endCode 1 [.int p1] σ (some (f_X11_endCode p1)) (rI σ) := by
  refine k_of (L := [some (.int p1)]) (plainFor_of_name (by decide +kernel)) 0 rfl (Nat.le_of_ble_eq_true rfl) ?_
  unfold f_X11_endCode
  refine gg_st (go_bipush d_X11_endCode_0 cb_m2 rfl) ?_
  refine gg_st (go_iload_n 0 d_X11_endCode_2 rfl rfl rfl) ?_
  refine gg_st (go_isub d_X11_endCode_3 rfl) ?_
  exact gg_iret rfl d_X11_endCode_4 rfl
def f_X10_hasSameEnds_L3 (F : Nat) (a : Nat) (σ : St) : Nat → Int32 → Option (Int32)
  | 0, _ => none
  | n + 1, v1 =>
    if v1 < (σ.1 (77) 4) then (
      Option.bind (some (f_X11_endCode v1)) fun x3 =>
      Option.bind (f_X4_wireOf (77) x3 σ) fun x4 =>
      Option.bind (f_X10_numbered (56) x4 σ) fun x5 =>
      Option.bind (some (f_X11_endCode v1)) fun x6 =>
      Option.bind (f_X4_wireOf a x6 σ) fun x7 =>
      Option.bind (f_X10_numbered (59) x7 σ) fun x8 =>
      if x5 = x8 then (
        f_X10_hasSameEnds_L3 F a σ n (v1 + (1 : Int32)))
      else (
        some (0 : Int32)))
    else (
      some (1 : Int32))
def f_X10_hasSameEnds (F : Nat) (a : Nat) (σ : St) : Option (Int32) :=
  f_X10_hasSameEnds_L3 F a σ F (0 : Int32)
set_option maxRecDepth 20000 in
theorem g_f_X10_hasSameEnds_L3 (l : Launch) (w : Wo) (F : Nat) {a : Nat} (ha : a ∈ st39_43_47_51) (σ : St) : ∀ (n : Nat) (v1 : Int32), GG l w shC m_X10_hasSameEnds 3 3 [some (.ref (56)), some (.ref (77)), some (.ref (59)), some (.ref a), some (.int v1)] [] σ (f_X10_hasSameEnds_L3 F a σ n v1) (fun q => .inr ((rI σ) q)) := by
  intro n
  induction n with
  | zero =>
    intro v1
    exact gg_none
  | succ n ih =>
    intro v1
    rw [f_X10_hasSameEnds_L3]
    refine gg_st (go_iload 4 d_X10_hasSameEnds_3 rfl rfl) ?_
    refine gg_st (go_aload_n 1 d_X10_hasSameEnds_5 rfl rfl rfl) ?_
    refine gg_st (go_getI (j := 4) cf4 sC_77 rfl (by decide) fl_X10_28 d_X10_hasSameEnds_6 rfl) ?_
    refine gg_br (br_icmp_ge (tgt := 49) (pc' := 12) d_X10_hasSameEnds_9 (by decide) rfl) (fun h2 => ?_) (fun h2 => ?_)
    · refine gg_st (go_aload_n 0 d_X10_hasSameEnds_12 rfl rfl rfl) ?_
      refine gg_st (go_aload_n 1 d_X10_hasSameEnds_13 rfl rfl rfl) ?_
      refine gg_st (go_iload 4 d_X10_hasSameEnds_14 rfl rfl) ?_
      refine gs_I (k_X11_endCode l w v1 σ) cs_X10_33 (Nat.le_of_ble_eq_true rfl) rfl rfl (Nat.le_of_ble_eq_true rfl) d_X10_hasSameEnds_16 rfl (fun x3 => ?_)
      refine gv_I (k_X4_wireOf l w (show 77 ∈ st39_43_47_51_77 by decide) x3 σ) cv_X10_37 sC_77 (Nat.le_of_ble_eq_true rfl) rfl rfl (Nat.le_of_ble_eq_true rfl) d_X10_hasSameEnds_19 rfl (fun x4 => ?_)
      refine gv_I (k_X10_numbered l w (show 56 ∈ st56_59 by decide) x4 σ) cv_X10_85 sC_56 (Nat.le_of_ble_eq_true rfl) rfl rfl (Nat.le_of_ble_eq_true rfl) d_X10_hasSameEnds_22 rfl (fun x5 => ?_)
      refine gg_st (go_aload_n 2 d_X10_hasSameEnds_25 rfl rfl rfl) ?_
      refine gg_st (go_aload_n 3 d_X10_hasSameEnds_26 rfl rfl rfl) ?_
      refine gg_st (go_iload 4 d_X10_hasSameEnds_27 rfl rfl) ?_
      refine gs_I (k_X11_endCode l w v1 σ) cs_X10_33 (Nat.le_of_ble_eq_true rfl) rfl rfl (Nat.le_of_ble_eq_true rfl) d_X10_hasSameEnds_29 rfl (fun x6 => ?_)
      refine gv_I (k_X4_wireOf l w (sub_st39_43_47_51_st39_43_47_51_77 _ ha) x6 σ) cv_X10_37 (sC_st39_43_47_51_0 ha) (Nat.le_of_ble_eq_true rfl) rfl rfl (Nat.le_of_ble_eq_true rfl) d_X10_hasSameEnds_32 rfl (fun x7 => ?_)
      refine gv_I (k_X10_numbered l w (show 59 ∈ st56_59 by decide) x7 σ) cv_X10_85 sC_59 (Nat.le_of_ble_eq_true rfl) rfl rfl (Nat.le_of_ble_eq_true rfl) d_X10_hasSameEnds_35 rfl (fun x8 => ?_)
      refine gg_br (br_icmp_eq (tgt := 43) (pc' := 41) d_X10_hasSameEnds_38 (by decide) rfl) (fun h9 => ?_) (fun h9 => ?_)
      · refine gg_st (go_iinc 4 d_X10_hasSameEnds_43 rfl (v := v1 + (1 : Int32)) (by rw [ci_1]) (by decide) (L' := [some (.ref (56)), some (.ref (77)), some (.ref (59)), some (.ref a), some (.int (v1 + (1 : Int32)))]) rfl rfl) ?_
        refine gg_st (go_goto (pc' := 3) d_X10_hasSameEnds_46 (by decide)) ?_
        exact ih (v1 + (1 : Int32))
      · refine gg_st (go_iconst d_X10_hasSameEnds_41 ci_0 rfl) ?_
        exact gg_zret (Or.inl rfl) rfl d_X10_hasSameEnds_42 rfl
    · refine gg_st (go_iconst d_X10_hasSameEnds_49 ci_1 rfl) ?_
      exact gg_zret (Or.inr rfl) rfl d_X10_hasSameEnds_50 rfl
set_option maxRecDepth 20000 in
theorem k_X10_hasSameEnds (l : Launch) (w : Wo) (F : Nat) {a : Nat} (ha : a ∈ st39_43_47_51) (σ : St) : K l w shC m_X10_hasSameEnds 3 [.ref (56), .ref (77), .ref (59), .ref a] σ (f_X10_hasSameEnds F a σ) (rI σ) := by
  refine k_of (L := [some (.ref (56)), some (.ref (77)), some (.ref (59)), some (.ref a), none]) (plainFor_of_name (by decide +kernel)) 1 rfl (Nat.le_of_ble_eq_true rfl) ?_
  unfold f_X10_hasSameEnds
  refine gg_st (go_iconst d_X10_hasSameEnds_0 ci_0 rfl) ?_
  refine gg_st (go_istore 4 d_X10_hasSameEnds_1 (by decide) (L' := [some (.ref (56)), some (.ref (77)), some (.ref (59)), some (.ref a), some (.int (0 : Int32))]) rfl rfl) ?_
  refine g_f_X10_hasSameEnds_L3 l w F ha σ  F (0 : Int32)
