def f_X12_readLinks_L2 (F : Nat) : Nat → Int32 → St → Option (Int32 × St)
  | 0, _, _ => none
  | n + 1, v1, g =>
    if v1 = 0 then (
      some ((1 : Int32), g))
    else (
      Option.bind (f_X12_readTerm F g) fun x3 =>
      if x3.1 = 0 then (
        some ((0 : Int32), x3.2))
      else (
        Option.bind (some (x3.2.1 (0) 60)) fun x5 =>
        Option.bind (f_X12_needs F (61 : Int32) x3.2) fun x6 =>
        if x6.1 = 0 then (
          some ((0 : Int32), x6.2))
        else (
          Option.bind (f_X12_readTerm F x6.2) fun x8 =>
          if x8.1 = 0 then (
            some ((0 : Int32), x8.2))
          else (
            Option.bind (f_X12_join x5 (x8.2.1 (0) 60) x8.2) fun s10 =>
            Option.bind (some (f_X12_isSign (44 : Int32) s10)) fun x11 =>
            Option.bind (
              if x11 = 0 then (
                some s10)
              else (
                Option.bind (f_X12_take F s10) fun s14 =>
                some s14)) fun t12 =>
            f_X12_readLinks_L2 F n x11 t12))))
def f_X12_readLinks (F : Nat) (σ : St) : Option (Int32 × St) :=
  f_X12_readLinks_L2 F F (1 : Int32) σ
set_option maxRecDepth 20000 in
theorem g_f_X12_readLinks_L2 (l : Launch) (w : Wo) (F : Nat) : ∀ (n : Nat) (v1 : Int32) (g : St), GG l w shM m_X12_readLinks 5 2 [some (.ref (0)), some (.int v1), none] [] g (f_X12_readLinks_L2 F n v1 g) (fun q => .inr ((rIS) q)) := by
  intro n
  induction n with
  | zero =>
    intro v1 g
    exact gg_none
  | succ n ih =>
    intro v1 g
    rw [f_X12_readLinks_L2]
    refine gg_st (go_iload_n 1 d_X12_readLinks_2 rfl rfl rfl) ?_
    refine gg_br (br_if_eq (tgt := 65) (pc' := 6) d_X12_readLinks_3 (by decide) rfl) (fun h2 => ?_) (fun h2 => ?_)
    · refine gg_st (go_iconst d_X12_readLinks_65 ci_1 rfl) ?_
      exact gg_zret (Or.inr rfl) rfl d_X12_readLinks_66 rfl
    · refine gg_st (go_aload_n 0 d_X12_readLinks_6 rfl rfl rfl) ?_
      refine gv_IS (k_X12_readTerm l w F  g) cv_X12_281 sM_0 (Nat.le_of_ble_eq_true rfl) rfl rfl (Nat.le_of_ble_eq_true rfl) d_X12_readLinks_7 rfl (fun x3 => ?_)
      refine gg_br (br_if_ne (tgt := 15) (pc' := 13) d_X12_readLinks_10 (by decide) rfl) (fun h4 => ?_) (fun h4 => ?_)
      · refine gg_st (go_iconst d_X12_readLinks_13 ci_0 rfl) ?_
        exact gg_zret (Or.inl rfl) rfl d_X12_readLinks_14 rfl
      · refine gg_st (go_aload_n 0 d_X12_readLinks_15 rfl rfl rfl) ?_
        refine gg_st (go_getI (j := 60) cf12 sM_0 rfl (by decide) fl_X12_274 d_X12_readLinks_16 rfl) ?_
        refine gg_nm (fun _ => [some (.ref (0)), some (.int v1), none]) (fun (x5 : Int32) => [.int x5]) (fun x5 => ?_)
        refine gg_st (go_istore_n 2 d_X12_readLinks_19 rfl (by decide) (L' := [some (.ref (0)), some (.int v1), some (.int x5)]) rfl rfl) ?_
        refine gg_st (go_aload_n 0 d_X12_readLinks_20 rfl rfl rfl) ?_
        refine gg_st (go_bipush d_X12_readLinks_21 cb_61 rfl) ?_
        refine gv_IS (k_X12_needs l w F (61 : Int32) x3.2) cv_X12_258 sM_0 (Nat.le_of_ble_eq_true rfl) rfl rfl (Nat.le_of_ble_eq_true rfl) d_X12_readLinks_23 rfl (fun x6 => ?_)
        refine gg_br (br_if_eq (tgt := 36) (pc' := 29) d_X12_readLinks_26 (by decide) rfl) (fun h7 => ?_) (fun h7 => ?_)
        · refine gg_st (go_iconst d_X12_readLinks_36 ci_0 rfl) ?_
          exact gg_zret (Or.inl rfl) rfl d_X12_readLinks_37 rfl
        · refine gg_st (go_aload_n 0 d_X12_readLinks_29 rfl rfl rfl) ?_
          refine gv_IS (k_X12_readTerm l w F  x6.2) cv_X12_281 sM_0 (Nat.le_of_ble_eq_true rfl) rfl rfl (Nat.le_of_ble_eq_true rfl) d_X12_readLinks_30 rfl (fun x8 => ?_)
          refine gg_br (br_if_ne (tgt := 38) (pc' := 36) d_X12_readLinks_33 (by decide) rfl) (fun h9 => ?_) (fun h9 => ?_)
          · refine gg_st (go_iconst d_X12_readLinks_36 ci_0 rfl) ?_
            exact gg_zret (Or.inl rfl) rfl d_X12_readLinks_37 rfl
          · refine gg_st (go_aload_n 0 d_X12_readLinks_38 rfl rfl rfl) ?_
            refine gg_st (go_iload_n 2 d_X12_readLinks_39 rfl rfl rfl) ?_
            refine gg_st (go_aload_n 0 d_X12_readLinks_40 rfl rfl rfl) ?_
            refine gg_st (go_getI (j := 60) cf12 sM_0 rfl (by decide) fl_X12_274 d_X12_readLinks_41 rfl) ?_
            refine gv_V (k_X12_join l w x5 (x8.2.1 (0) 60) x8.2) cv_X12_277 sM_0 (Nat.le_of_ble_eq_true rfl) rfl rfl (Nat.le_of_ble_eq_true rfl) d_X12_readLinks_44 rfl (fun s10 => ?_)
            refine gg_st (go_aload_n 0 d_X12_readLinks_47 rfl rfl rfl) ?_
            refine gg_st (go_bipush d_X12_readLinks_48 cb_44 rfl) ?_
            refine gv_I (k_X12_isSign l w (44 : Int32) s10) cv_X12_238 sM_0 (Nat.le_of_ble_eq_true rfl) rfl rfl (Nat.le_of_ble_eq_true rfl) d_X12_readLinks_50 rfl (fun x11 => ?_)
            refine gg_st (go_istore_n 1 d_X12_readLinks_53 rfl (by decide) (L' := [some (.ref (0)), some (.int x11), some (.int x5)]) rfl rfl) ?_
            refine gg_st (go_iload_n 1 d_X12_readLinks_54 rfl rfl rfl) ?_
            refine gg_bind 62 (fun (t12 : St) => [some (.ref (0)), some (.int x11), none]) (fun (t12 : St) => []) (fun (t12 : St) => t12) ?_ (fun t12 => ?_)
            · refine gg_br (br_if_eq (tgt := 62) (pc' := 58) d_X12_readLinks_55 (by decide) rfl) (fun h13 => ?_) (fun h13 => ?_)
              · refine gg_st (go_fg [some (.ref (0)), some (.int x11), none] ⟨rfl, ⟨rfl, trivial⟩⟩) ?_
                exact gg_end rfl
              · refine gg_st (go_aload_n 0 d_X12_readLinks_58 rfl rfl rfl) ?_
                refine gv_V (k_X12_take l w F  s10) cv_X12_245 sM_0 (Nat.le_of_ble_eq_true rfl) rfl rfl (Nat.le_of_ble_eq_true rfl) d_X12_readLinks_59 rfl (fun s14 => ?_)
                refine gg_st (go_fg [some (.ref (0)), some (.int x11), none] ⟨rfl, ⟨rfl, trivial⟩⟩) ?_
                exact gg_end rfl
            · refine gg_st (go_goto (pc' := 2) d_X12_readLinks_62 (by decide)) ?_
              exact ih x11 t12
set_option maxRecDepth 20000 in
theorem k_X12_readLinks (l : Launch) (w : Wo) (F : Nat) (σ : St) : K l w shM m_X12_readLinks 5 [.ref (0)] σ (f_X12_readLinks F σ) (rIS) := by
  refine k_of (L := [some (.ref (0)), none, none]) (plainFor_of_name (by decide +kernel)) 2 rfl (Nat.le_of_ble_eq_true rfl) ?_
  unfold f_X12_readLinks
  refine gg_st (go_iconst d_X12_readLinks_0 ci_1 rfl) ?_
  refine gg_st (go_istore_n 1 d_X12_readLinks_1 rfl (by decide) (L' := [some (.ref (0)), some (.int (1 : Int32)), none]) rfl rfl) ?_
  refine g_f_X12_readLinks_L2 l w F  F (1 : Int32) σ
def f_X12_sheetRings_L50 (F : Nat) (c1 : Int32) (c2 : Int32) : Nat → Int32 → St → Option (St)
  | 0, _, _ => none
  | n + 1, v12, g =>
    if inb v12 1211 then (
      if (g.1 (35) (ix v12)) = 0 then (
        if inb v12 1211 then (
          Option.bind (some (seti g (35) (ix v12) (1 : Int32))) fun s18 =>
          Option.bind (some ((((1000 : Int32) + ((2 : Int32) * ((v12 - (1000 : Int32)) / (2 : Int32)))) + (1 : Int32)) - ((v12 - (1000 : Int32)) - (v12 - (1000 : Int32)) / (2 : Int32) * (2 : Int32)))) fun x19 =>
          if inb x19 1211 then (
            Option.bind (some (seti s18 (35) (ix x19) (1 : Int32))) fun s21 =>
            if inb x19 1211 then (
              Option.bind (some (s21.1 (29) (ix x19))) fun x23 =>
              f_X12_sheetRings_L50 F c1 c2 n x23 s21)
            else none)
          else none)
        else none)
      else (
        some g))
    else none
def f_X12_sheetRings_L6 (F : Nat) : Nat → Int32 → Int32 → St → Option (Int32 × St)
  | 0, _, _, _ => none
  | n + 1, v1, v2, g =>
    if v2 < ((1000 : Int32) + ((2 : Int32) * (g.1 (0) 54))) then (
      if inb v2 1211 then (
        Option.bind (
          if (g.1 (35) (ix v2)) = 0 then (
            if inb ((v2 - (1000 : Int32)) / (2 : Int32)) 60 then (
              if (g.1 (31) (ix ((v2 - (1000 : Int32)) / (2 : Int32)))) = (2 : Int32) then (
                Option.bind (some (v1 + (1 : Int32))) fun x11 =>
                Option.bind (f_X12_sheetRings_L50 F x11 v2 F v2 g) fun t24 =>
                some (x11, t24))
              else (
                some (v1, g)))
            else none)
          else (
            some (v1, g))) fun t6 =>
        f_X12_sheetRings_L6 F n t6.1 (v2 + (1 : Int32)) t6.2)
      else none)
    else (
      some (v1, g))
def f_X12_sheetRings (F : Nat) (σ : St) : Option (Int32 × St) :=
  Option.bind (f_X12_sheetRings_L6 F F (0 : Int32) (1000 : Int32) σ) fun t25 =>
  some (t25.1, t25.2)
set_option maxRecDepth 20000 in
theorem g_f_X12_sheetRings_L50 (l : Launch) (w : Wo) (F : Nat) (c1 : Int32) (c2 : Int32) : ∀ (n : Nat) (v12 : Int32) (g : St), GG l w shM m_X12_sheetRings 1 50 [some (.ref (0)), some (.int c1), some (.int c2), some (.int v12), none] [] g (f_X12_sheetRings_L50 F c1 c2 n v12 g) (fun (t : St) => .inl (110, [some (.ref (0)), some (.int c1), some (.int c2), none, none], [], t)) := by
  intro n
  induction n with
  | zero =>
    intro v12 g
    exact gg_none
  | succ n ih =>
    intro v12 g
    rw [f_X12_sheetRings_L50]
    refine gg_st (go_aload_n 0 d_X12_sheetRings_50 rfl rfl rfl) ?_
    refine gg_st (go_getR (j := 61) cf12 sM_0 rfl (by decide) fl_X12_122 d_X12_sheetRings_51 rfl) ?_
    refine gg_st (go_iload_n 3 d_X12_sheetRings_54 rfl rfl rfl) ?_
    refine gg_gd (fun h13 => ?_)
    refine gg_st (go_zald sM_35 h13 d_X12_sheetRings_55 rfl) ?_
    refine gg_br (br_if_ne (tgt := 110) (pc' := 59) d_X12_sheetRings_56 (by decide) rfl) (fun h16 => ?_) (fun h16 => ?_)
    · refine gg_st (go_aload_n 0 d_X12_sheetRings_59 rfl rfl rfl) ?_
      refine gg_st (go_getR (j := 61) cf12 sM_0 rfl (by decide) fl_X12_122 d_X12_sheetRings_60 rfl) ?_
      refine gg_st (go_iload_n 3 d_X12_sheetRings_63 rfl rfl rfl) ?_
      refine gg_st (go_iconst d_X12_sheetRings_64 ci_1 rfl) ?_
      refine gg_gd (fun h17 => ?_)
      refine gg_st (go_zast (Or.inr rfl) sM_35 h17 d_X12_sheetRings_65 rfl) ?_
      refine gg_som (fun s18 => ?_)
      refine gg_st (go_sipush d_X12_sheetRings_66 cs_1000 rfl) ?_
      refine gg_st (go_iconst d_X12_sheetRings_69 ci_2 rfl) ?_
      refine gg_st (go_iload_n 3 d_X12_sheetRings_70 rfl rfl rfl) ?_
      refine gg_st (go_sipush d_X12_sheetRings_71 cs_1000 rfl) ?_
      refine gg_st (go_isub d_X12_sheetRings_74 rfl) ?_
      refine gg_st (go_iconst d_X12_sheetRings_75 ci_2 rfl) ?_
      refine gg_st (go_idiv d_X12_sheetRings_76 (by decide) rfl) ?_
      refine gg_st (go_imul d_X12_sheetRings_77 rfl) ?_
      refine gg_st (go_iadd d_X12_sheetRings_78 rfl) ?_
      refine gg_st (go_iconst d_X12_sheetRings_79 ci_1 rfl) ?_
      refine gg_st (go_iadd d_X12_sheetRings_80 rfl) ?_
      refine gg_st (go_iload_n 3 d_X12_sheetRings_81 rfl rfl rfl) ?_
      refine gg_st (go_sipush d_X12_sheetRings_82 cs_1000 rfl) ?_
      refine gg_st (go_isub d_X12_sheetRings_85 rfl) ?_
      refine gg_st (go_iconst d_X12_sheetRings_86 ci_2 rfl) ?_
      refine gg_st (go_irem d_X12_sheetRings_87 (by decide) rfl) ?_
      refine gg_st (go_isub d_X12_sheetRings_88 rfl) ?_
      refine gg_nm (fun _ => [some (.ref (0)), some (.int c1), some (.int c2), some (.int v12), none]) (fun (x19 : Int32) => [.int x19]) (fun x19 => ?_)
      refine gg_st (go_istore 4 d_X12_sheetRings_89 (by decide) (L' := [some (.ref (0)), some (.int c1), some (.int c2), some (.int v12), some (.int x19)]) rfl rfl) ?_
      refine gg_st (go_aload_n 0 d_X12_sheetRings_91 rfl rfl rfl) ?_
      refine gg_st (go_getR (j := 61) cf12 sM_0 rfl (by decide) fl_X12_122 d_X12_sheetRings_92 rfl) ?_
      refine gg_st (go_iload 4 d_X12_sheetRings_95 rfl rfl) ?_
      refine gg_st (go_iconst d_X12_sheetRings_97 ci_1 rfl) ?_
      refine gg_gd (fun h20 => ?_)
      refine gg_st (go_zast (Or.inr rfl) sM_35 h20 d_X12_sheetRings_98 rfl) ?_
      refine gg_som (fun s21 => ?_)
      refine gg_st (go_aload_n 0 d_X12_sheetRings_99 rfl rfl rfl) ?_
      refine gg_st (go_getR (j := 53) cf12 sM_0 rfl (by decide) fl_X12_104 d_X12_sheetRings_100 rfl) ?_
      refine gg_st (go_iload 4 d_X12_sheetRings_103 rfl rfl) ?_
      refine gg_gd (fun h22 => ?_)
      refine gg_st (go_iald sM_29 h22 d_X12_sheetRings_105 rfl) ?_
      refine gg_nm (fun _ => [some (.ref (0)), some (.int c1), some (.int c2), some (.int v12), some (.int x19)]) (fun (x23 : Int32) => [.int x23]) (fun x23 => ?_)
      refine gg_st (go_istore_n 3 d_X12_sheetRings_106 rfl (by decide) (L' := [some (.ref (0)), some (.int c1), some (.int c2), some (.int x23), some (.int x19)]) rfl rfl) ?_
      refine gg_st (go_goto (pc' := 50) d_X12_sheetRings_107 (by decide)) ?_
      refine gg_st (go_fg [some (.ref (0)), some (.int c1), some (.int c2), some (.int x23), none] ⟨rfl, ⟨rfl, ⟨rfl, ⟨rfl, trivial⟩⟩⟩⟩) ?_
      exact ih x23 s21
    · refine gg_st (go_fg [some (.ref (0)), some (.int c1), some (.int c2), none, none] ⟨rfl, ⟨rfl, ⟨rfl, trivial⟩⟩⟩) ?_
      exact gg_end rfl
set_option maxRecDepth 20000 in
theorem g_f_X12_sheetRings_L6 (l : Launch) (w : Wo) (F : Nat) : ∀ (n : Nat) (v1 : Int32) (v2 : Int32) (g : St), GG l w shM m_X12_sheetRings 1 6 [some (.ref (0)), some (.int v1), some (.int v2), none, none] [] g (f_X12_sheetRings_L6 F n v1 v2 g) (fun (t : Int32 × St) => .inl (116, [none, some (.int t.1), none, none, none], [], t.2)) := by
  intro n
  induction n with
  | zero =>
    intro v1 v2 g
    exact gg_none
  | succ n ih =>
    intro v1 v2 g
    rw [f_X12_sheetRings_L6]
    refine gg_st (go_iload_n 2 d_X12_sheetRings_6 rfl rfl rfl) ?_
    refine gg_st (go_sipush d_X12_sheetRings_7 cs_1000 rfl) ?_
    refine gg_st (go_iconst d_X12_sheetRings_10 ci_2 rfl) ?_
    refine gg_st (go_aload_n 0 d_X12_sheetRings_11 rfl rfl rfl) ?_
    refine gg_st (go_getI (j := 54) cf12 sM_0 rfl (by decide) fl_X12_267 d_X12_sheetRings_12 rfl) ?_
    refine gg_st (go_imul d_X12_sheetRings_15 rfl) ?_
    refine gg_st (go_iadd d_X12_sheetRings_16 rfl) ?_
    refine gg_br (br_icmp_ge (tgt := 116) (pc' := 20) d_X12_sheetRings_17 (by decide) rfl) (fun h4 => ?_) (fun h4 => ?_)
    · refine gg_st (go_aload_n 0 d_X12_sheetRings_20 rfl rfl rfl) ?_
      refine gg_st (go_getR (j := 61) cf12 sM_0 rfl (by decide) fl_X12_122 d_X12_sheetRings_21 rfl) ?_
      refine gg_st (go_iload_n 2 d_X12_sheetRings_24 rfl rfl rfl) ?_
      refine gg_gd (fun h5 => ?_)
      refine gg_st (go_zald sM_35 h5 d_X12_sheetRings_25 rfl) ?_
      refine gg_bind 110 (fun (t6 : Int32 × St) => [some (.ref (0)), some (.int t6.1), some (.int v2), none, none]) (fun (t6 : Int32 × St) => []) (fun (t6 : Int32 × St) => t6.2) ?_ (fun t6 => ?_)
      · refine gg_br (br_if_ne (tgt := 110) (pc' := 29) d_X12_sheetRings_26 (by decide) rfl) (fun h8 => ?_) (fun h8 => ?_)
        · refine gg_st (go_aload_n 0 d_X12_sheetRings_29 rfl rfl rfl) ?_
          refine gg_st (go_getR (j := 56) cf12 sM_0 rfl (by decide) fl_X12_110 d_X12_sheetRings_30 rfl) ?_
          refine gg_st (go_iload_n 2 d_X12_sheetRings_33 rfl rfl rfl) ?_
          refine gg_st (go_sipush d_X12_sheetRings_34 cs_1000 rfl) ?_
          refine gg_st (go_isub d_X12_sheetRings_37 rfl) ?_
          refine gg_st (go_iconst d_X12_sheetRings_38 ci_2 rfl) ?_
          refine gg_st (go_idiv d_X12_sheetRings_39 (by decide) rfl) ?_
          refine gg_gd (fun h9 => ?_)
          refine gg_st (go_iald sM_31 h9 d_X12_sheetRings_40 rfl) ?_
          refine gg_st (go_iconst d_X12_sheetRings_41 ci_2 rfl) ?_
          refine gg_br (br_icmp_ne (tgt := 110) (pc' := 45) d_X12_sheetRings_42 (by decide) rfl) (fun h10 => ?_) (fun h10 => ?_)
          · refine gg_st (go_iinc 1 d_X12_sheetRings_45 rfl (v := v1 + (1 : Int32)) (by rw [ci_1]) (by decide) (L' := [some (.ref (0)), some (.int (v1 + (1 : Int32))), some (.int v2), none, none]) rfl rfl) ?_
            refine gg_nm (fun (x11 : Int32) => [some (.ref (0)), some (.int x11), some (.int v2), none, none]) (fun _ => []) (fun x11 => ?_)
            refine gg_st (go_iload_n 2 d_X12_sheetRings_48 rfl rfl rfl) ?_
            refine gg_st (go_istore_n 3 d_X12_sheetRings_49 rfl (by decide) (L' := [some (.ref (0)), some (.int x11), some (.int v2), some (.int v2), none]) rfl rfl) ?_
            refine gg_bind 110 (fun (t24 : St) => [some (.ref (0)), some (.int x11), some (.int v2), none, none]) (fun (t24 : St) => []) (fun (t24 : St) => t24) (g_f_X12_sheetRings_L50 l w F x11 v2 F v2 g) (fun t24 => ?_)
            exact gg_end rfl
          · exact gg_end rfl
        · exact gg_end rfl
      · refine gg_st (go_iinc 2 d_X12_sheetRings_110 rfl (v := v2 + (1 : Int32)) (by rw [ci_1]) (by decide) (L' := [some (.ref (0)), some (.int t6.1), some (.int (v2 + (1 : Int32))), none, none]) rfl rfl) ?_
        refine gg_st (go_goto (pc' := 6) d_X12_sheetRings_113 (by decide)) ?_
        exact ih t6.1 (v2 + (1 : Int32)) t6.2
    · refine gg_st (go_fg [none, some (.int v1), none, none, none] ⟨rfl, trivial⟩) ?_
      exact gg_end rfl
set_option maxRecDepth 20000 in
theorem k_X12_sheetRings (l : Launch) (w : Wo) (F : Nat) (σ : St) : K l w shM m_X12_sheetRings 1 [.ref (0)] σ (f_X12_sheetRings F σ) (rIS) := by
  refine k_of (L := [some (.ref (0)), none, none, none, none]) (plainFor_of_name (by decide +kernel)) 4 rfl (Nat.le_of_ble_eq_true rfl) ?_
  unfold f_X12_sheetRings
  refine gg_st (go_iconst d_X12_sheetRings_0 ci_0 rfl) ?_
  refine gg_st (go_istore_n 1 d_X12_sheetRings_1 rfl (by decide) (L' := [some (.ref (0)), some (.int (0 : Int32)), none, none, none]) rfl rfl) ?_
  refine gg_st (go_sipush d_X12_sheetRings_2 cs_1000 rfl) ?_
  refine gg_st (go_istore_n 2 d_X12_sheetRings_5 rfl (by decide) (L' := [some (.ref (0)), some (.int (0 : Int32)), some (.int (1000 : Int32)), none, none]) rfl rfl) ?_
  refine gg_bind 116 (fun (t25 : Int32 × St) => [none, some (.int t25.1), none, none, none]) (fun (t25 : Int32 × St) => []) (fun (t25 : Int32 × St) => t25.2) (g_f_X12_sheetRings_L6 l w F F (0 : Int32) (1000 : Int32) σ) (fun t25 => ?_)
  refine gg_st (go_iload_n 1 d_X12_sheetRings_116 rfl rfl rfl) ?_
  exact gg_iret rfl d_X12_sheetRings_117 rfl
def f_X12_readNet_L74 (F : Nat) : Nat → Int32 → Int32 → St → Option (Int32 × St)
  | 0, _, _, _ => none
  | n + 1, v15, v16, g =>
    if v16 < (g.1 (0) 54) then (
      Option.bind (
        Option.bind (some (fun (t21 : Unit) =>
          some (0 : Int32))) fun jp22 =>
        if v15 = 0 then (
          jp22 ())
        else (
          if inb v16 60 then (
            if (g.1 (31) (ix v16)) < (3 : Int32) then (
              some (1 : Int32))
            else (
              jp22 ()))
          else none)) fun t19 =>
      if inb v16 60 then (
        Option.bind (some (seti g (36) (ix v16) (g.1 (0) 66))) fun s27 =>
        if inb v16 60 then (
          Option.bind (
            if (s27.1 (31) (ix v16)) = (1 : Int32) then (
              some (1 : Int32))
            else (
              some (0 : Int32))) fun t29 =>
          Option.bind (some (seti s27 (0) 66 ((s27.1 (0) 66) + t29))) fun s31 =>
          f_X12_readNet_L74 F n t19 (v16 + (1 : Int32)) s31)
        else none)
      else none)
    else (
      some (v15, g))
def f_X12_readNet_L205 (F : Nat) (c2 : Int32) : Nat → Int32 → St → Option (St)
  | 0, _, _ => none
  | n + 1, v47, g =>
    if inb c2 200 then (
      if inb (g.1 (27) (ix c2)) 16 then (
        if v47 < (g.1 (18) (ix (g.1 (27) (ix c2)))) then (
          if inb (((5 : Int32) * c2) + v47) 1211 then (
            Option.bind (f_X12_follow F (g.1 (29) (ix (((5 : Int32) * c2) + v47))) g) fun x53 =>
            if inb (((5 : Int32) * c2) + v47) 1000 then (
              Option.bind (some (seti x53.2 (38) (ix (((5 : Int32) * c2) + v47)) x53.1)) fun s55 =>
              f_X12_readNet_L205 F c2 n (v47 + (1 : Int32)) s55)
            else none)
          else none)
        else (
          some g))
      else none)
    else none
def f_X12_readNet_L183 (F : Nat) : Nat → Int32 → St → Option (St)
  | 0, _, _ => none
  | n + 1, v41, g =>
    if v41 < (g.1 (0) 49) then (
      if inb v41 200 then (
        if inb v41 200 then (
          Option.bind (some (seti g (37) (ix v41) (g.1 (27) (ix v41)))) fun s46 =>
          Option.bind (f_X12_readNet_L205 F v41 F (0 : Int32) s46) fun t56 =>
          f_X12_readNet_L183 F n (v41 + (1 : Int32)) t56)
        else none)
      else none)
    else (
      some g)
def f_X12_readNet_L258 (F : Nat) : Nat → Int32 → St → Option (St)
  | 0, _, _ => none
  | n + 1, v58, g =>
    if v58 < (g.1 (0) 54) then (
      if inb v58 60 then (
        Option.bind (
          if (g.1 (31) (ix v58)) = (1 : Int32) then (
            if inb ((1000 : Int32) + ((2 : Int32) * v58)) 1211 then (
              Option.bind (some (seti g (35) (ix ((1000 : Int32) + ((2 : Int32) * v58))) (1 : Int32))) fun s67 =>
              if inb v58 60 then (
                if inb ((1000 : Int32) + ((2 : Int32) * v58)) 1211 then (
                  Option.bind (f_X12_follow F (s67.1 (29) (ix ((1000 : Int32) + ((2 : Int32) * v58)))) s67) fun x70 =>
                  if inb (s67.1 (36) (ix v58)) 8 then (
                    Option.bind (some (seti x70.2 (39) (ix (s67.1 (36) (ix v58))) x70.1)) fun s72 =>
                    some s72)
                  else none)
                else none)
              else none)
            else none)
          else (
            some g)) fun t62 =>
        f_X12_readNet_L258 F n (v58 + (1 : Int32)) t62)
      else none)
    else (
      some g)
def f_X12_readNet (F : Nat) (σ : St) : Option (Int32 × St) :=
  if (σ.1 (0) 48) = 0 then (
    Option.bind (some (seti σ (0) 48 (1 : Int32))) fun s3 =>
    Option.bind (f_X12_beginSheet (200 : Int32) s3) fun s4 =>
    Option.bind (f_X12_take F s4) fun s5 =>
    Option.bind (some (f_X12_isSign (59 : Int32) s5)) fun x6 =>
    Option.bind (some (fun (t7 : St) =>
      Option.bind (some (f_X12_isSign (59 : Int32) t7)) fun x9 =>
      if x9 = 0 then (
        Option.bind (f_X12_wrong t7) fun x12 =>
        if x12.1 = 0 ∨ x12.1 = 1 then some (x12.1, x12.2) else none)
      else (
        Option.bind (some (seti t7 (0) 66 (0 : Int32))) fun s14 =>
        Option.bind (f_X12_readNet_L74 F F (1 : Int32) (0 : Int32) s14) fun t32 =>
        Option.bind (some (fun (t33 : St) =>
          Option.bind (f_X12_fail (7 : Int32) (t33.1 (0) 30) t33) fun x35 =>
          if x35.1 = 0 ∨ x35.1 = 1 then some (x35.1, x35.2) else none)) fun jp34 =>
        if (t32.1 = 0) ∨ (¬ ((t32.2.1 (0) 66) ≤ (8 : Int32))) then (
          jp34 t32.2)
        else (
          Option.bind (f_X12_fitAll F t32.2) fun x37 =>
          if x37.1 = 0 then (
            jp34 x37.2)
          else (
            Option.bind (some (seti x37.2 (0) 63 (x37.2.1 (0) 49))) fun s40 =>
            Option.bind (f_X12_readNet_L183 F F (0 : Int32) s40) fun t57 =>
            Option.bind (f_X12_readNet_L258 F F (0 : Int32) t57) fun t73 =>
            Option.bind (f_X12_sheetRings F t73) fun x74 =>
            Option.bind (some (seti x74.2 (0) 68 x74.1)) fun s75 =>
            some ((1 : Int32), s75)))))) fun jp8 =>
    if x6 = 0 then (
      Option.bind (f_X12_readLinks F s5) fun x81 =>
      if x81.1 = 0 then (
        some ((0 : Int32), x81.2))
      else (
        jp8 x81.2))
    else (
      jp8 s5))
  else (
    Option.bind (f_X12_fail (4 : Int32) (σ.1 (0) 30) σ) fun x83 =>
    if x83.1 = 0 ∨ x83.1 = 1 then some (x83.1, x83.2) else none)
set_option maxRecDepth 20000 in
theorem g_f_X12_readNet_L74 (l : Launch) (w : Wo) (F : Nat) : ∀ (n : Nat) (v15 : Int32) (v16 : Int32) (g : St), GG l w shM m_X12_readNet 6 74 [some (.ref (0)), some (.int v15), some (.int v16), none] [] g (f_X12_readNet_L74 F n v15 v16 g) (fun (t : Int32 × St) => .inl (142, [some (.ref (0)), some (.int t.1), none, none], [], t.2)) := by
  intro n
  induction n with
  | zero =>
    intro v15 v16 g
    exact gg_none
  | succ n ih =>
    intro v15 v16 g
    rw [f_X12_readNet_L74]
    refine gg_st (go_iload_n 2 d_X12_readNet_74 rfl rfl rfl) ?_
    refine gg_st (go_aload_n 0 d_X12_readNet_75 rfl rfl rfl) ?_
    refine gg_st (go_getI (j := 54) cf12 sM_0 rfl (by decide) fl_X12_267 d_X12_readNet_76 rfl) ?_
    refine gg_br (br_icmp_ge (tgt := 142) (pc' := 82) d_X12_readNet_79 (by decide) rfl) (fun h18 => ?_) (fun h18 => ?_)
    · refine gg_st (go_iload_n 1 d_X12_readNet_82 rfl rfl rfl) ?_
      refine gg_bind 101 (fun (t19 : Int32) => [some (.ref (0)), none, some (.int v16), none]) (fun (t19 : Int32) => [.int t19]) (fun (t19 : Int32) => g) ?_ (fun t19 => ?_)
      · refine gg_jp 100 (fun (t21 : Unit) => [some (.ref (0)), none, some (.int v16), none]) (fun (t21 : Unit) => []) (fun (t21 : Unit) => g) (fun t21 => ?_) (fun jp22 hjp22 => ?_)
        · refine gg_st (go_iconst d_X12_readNet_100 ci_0 rfl) ?_
          exact gg_end rfl
        refine gg_br (br_if_eq (tgt := 100) (pc' := 86) d_X12_readNet_83 (by decide) rfl) (fun h23 => ?_) (fun h23 => ?_)
        · refine gg_st (go_fg [some (.ref (0)), none, some (.int v16), none] ⟨rfl, ⟨rfl, trivial⟩⟩) ?_
          exact hjp22 ()
        · refine gg_st (go_aload_n 0 d_X12_readNet_86 rfl rfl rfl) ?_
          refine gg_st (go_getR (j := 56) cf12 sM_0 rfl (by decide) fl_X12_110 d_X12_readNet_87 rfl) ?_
          refine gg_st (go_iload_n 2 d_X12_readNet_90 rfl rfl rfl) ?_
          refine gg_gd (fun h24 => ?_)
          refine gg_st (go_iald sM_31 h24 d_X12_readNet_91 rfl) ?_
          refine gg_st (go_iconst d_X12_readNet_92 ci_3 rfl) ?_
          refine gg_br (br_icmp_ge (tgt := 100) (pc' := 96) d_X12_readNet_93 (by decide) rfl) (fun h25 => ?_) (fun h25 => ?_)
          · refine gg_st (go_iconst d_X12_readNet_96 ci_1 rfl) ?_
            refine gg_st (go_goto (pc' := 101) d_X12_readNet_97 (by decide)) ?_
            refine gg_st (go_fg [some (.ref (0)), none, some (.int v16), none] ⟨rfl, ⟨rfl, trivial⟩⟩) ?_
            exact gg_end rfl
          · refine gg_st (go_fg [some (.ref (0)), none, some (.int v16), none] ⟨rfl, ⟨rfl, trivial⟩⟩) ?_
            exact hjp22 ()
      · refine gg_st (go_istore_n 1 d_X12_readNet_101 rfl (by decide) (L' := [some (.ref (0)), some (.int t19), some (.int v16), none]) rfl rfl) ?_
        refine gg_st (go_aload_n 0 d_X12_readNet_102 rfl rfl rfl) ?_
        refine gg_st (go_getR (j := 62) cf12 sM_0 rfl (by decide) fl_X12_125 d_X12_readNet_103 rfl) ?_
        refine gg_st (go_iload_n 2 d_X12_readNet_106 rfl rfl rfl) ?_
        refine gg_st (go_aload_n 0 d_X12_readNet_107 rfl rfl rfl) ?_
        refine gg_st (go_getI (j := 66) cf12 sM_0 rfl (by decide) fl_X12_324 d_X12_readNet_108 rfl) ?_
        refine gg_gd (fun h26 => ?_)
        refine gg_st (go_iast sM_36 h26 d_X12_readNet_111 rfl) ?_
        refine gg_som (fun s27 => ?_)
        refine gg_st (go_aload_n 0 d_X12_readNet_112 rfl rfl rfl) ?_
        refine gg_st (go_dup d_X12_readNet_113 rfl rfl) ?_
        refine gg_st (go_getI (j := 66) cf12 sM_0 rfl (by decide) fl_X12_324 d_X12_readNet_114 rfl) ?_
        refine gg_st (go_aload_n 0 d_X12_readNet_117 rfl rfl rfl) ?_
        refine gg_st (go_getR (j := 56) cf12 sM_0 rfl (by decide) fl_X12_110 d_X12_readNet_118 rfl) ?_
        refine gg_st (go_iload_n 2 d_X12_readNet_121 rfl rfl rfl) ?_
        refine gg_gd (fun h28 => ?_)
        refine gg_st (go_iald sM_31 h28 d_X12_readNet_122 rfl) ?_
        refine gg_st (go_iconst d_X12_readNet_123 ci_1 rfl) ?_
        refine gg_bind 132 (fun (t29 : Int32) => [some (.ref (0)), some (.int t19), some (.int v16), none]) (fun (t29 : Int32) => [.int t29, .int (s27.1 (0) 66), .ref (0)]) (fun (t29 : Int32) => s27) ?_ (fun t29 => ?_)
        · refine gg_br (br_icmp_ne (tgt := 131) (pc' := 127) d_X12_readNet_124 (by decide) rfl) (fun h30 => ?_) (fun h30 => ?_)
          · refine gg_st (go_iconst d_X12_readNet_127 ci_1 rfl) ?_
            refine gg_st (go_goto (pc' := 132) d_X12_readNet_128 (by decide)) ?_
            exact gg_end rfl
          · refine gg_st (go_iconst d_X12_readNet_131 ci_0 rfl) ?_
            exact gg_end rfl
        · refine gg_st (go_iadd d_X12_readNet_132 rfl) ?_
          refine gg_st (go_putI (j := 66) cf12 sM_0 rfl (by decide) rfl rfl fl_X12_324 d_X12_readNet_133 rfl) ?_
          refine gg_som (fun s31 => ?_)
          refine gg_st (go_iinc 2 d_X12_readNet_136 rfl (v := v16 + (1 : Int32)) (by rw [ci_1]) (by decide) (L' := [some (.ref (0)), some (.int t19), some (.int (v16 + (1 : Int32))), none]) rfl rfl) ?_
          refine gg_st (go_goto (pc' := 74) d_X12_readNet_139 (by decide)) ?_
          exact ih t19 (v16 + (1 : Int32)) s31
    · refine gg_st (go_fg [some (.ref (0)), some (.int v15), none, none] ⟨rfl, ⟨rfl, trivial⟩⟩) ?_
      exact gg_end rfl
set_option maxRecDepth 20000 in
theorem g_f_X12_readNet_L205 (l : Launch) (w : Wo) (F : Nat) (c2 : Int32) : ∀ (n : Nat) (v47 : Int32) (g : St), GG l w shM m_X12_readNet 6 205 [some (.ref (0)), none, some (.int c2), some (.int v47)] [] g (f_X12_readNet_L205 F c2 n v47 g) (fun (t : St) => .inl (250, [some (.ref (0)), none, some (.int c2), none], [], t)) := by
  intro n
  induction n with
  | zero =>
    intro v47 g
    exact gg_none
  | succ n ih =>
    intro v47 g
    rw [f_X12_readNet_L205]
    refine gg_st (go_iload_n 3 d_X12_readNet_205 rfl rfl rfl) ?_
    refine gg_st (go_aload_n 0 d_X12_readNet_206 rfl rfl rfl) ?_
    refine gg_st (go_getR (j := 38) cf12 sM_0 rfl (by decide) fl_X12_71 d_X12_readNet_207 rfl) ?_
    refine gg_st (go_aload_n 0 d_X12_readNet_210 rfl rfl rfl) ?_
    refine gg_st (go_getR (j := 51) cf12 sM_0 rfl (by decide) fl_X12_98 d_X12_readNet_211 rfl) ?_
    refine gg_st (go_iload_n 2 d_X12_readNet_214 rfl rfl rfl) ?_
    refine gg_gd (fun h48 => ?_)
    refine gg_st (go_iald sM_27 h48 d_X12_readNet_215 rfl) ?_
    refine gg_gd (fun h49 => ?_)
    refine gg_st (go_iald sM_18 h49 d_X12_readNet_216 rfl) ?_
    refine gg_br (br_icmp_ge (tgt := 250) (pc' := 220) d_X12_readNet_217 (by decide) rfl) (fun h51 => ?_) (fun h51 => ?_)
    · refine gg_st (go_aload_n 0 d_X12_readNet_220 rfl rfl rfl) ?_
      refine gg_st (go_getR (j := 65) cf12 sM_0 rfl (by decide) fl_X12_131 d_X12_readNet_221 rfl) ?_
      refine gg_st (go_iconst d_X12_readNet_224 ci_5 rfl) ?_
      refine gg_st (go_iload_n 2 d_X12_readNet_225 rfl rfl rfl) ?_
      refine gg_st (go_imul d_X12_readNet_226 rfl) ?_
      refine gg_st (go_iload_n 3 d_X12_readNet_227 rfl rfl rfl) ?_
      refine gg_st (go_iadd d_X12_readNet_228 rfl) ?_
      refine gg_st (go_aload_n 0 d_X12_readNet_229 rfl rfl rfl) ?_
      refine gg_st (go_aload_n 0 d_X12_readNet_230 rfl rfl rfl) ?_
      refine gg_st (go_getR (j := 53) cf12 sM_0 rfl (by decide) fl_X12_104 d_X12_readNet_231 rfl) ?_
      refine gg_st (go_iconst d_X12_readNet_234 ci_5 rfl) ?_
      refine gg_st (go_iload_n 2 d_X12_readNet_235 rfl rfl rfl) ?_
      refine gg_st (go_imul d_X12_readNet_236 rfl) ?_
      refine gg_st (go_iload_n 3 d_X12_readNet_237 rfl rfl rfl) ?_
      refine gg_st (go_iadd d_X12_readNet_238 rfl) ?_
      refine gg_gd (fun h52 => ?_)
      refine gg_st (go_iald sM_29 h52 d_X12_readNet_239 rfl) ?_
      refine gv_IS (k_X12_follow l w F (g.1 (29) (ix (((5 : Int32) * c2) + v47))) g) cv_X12_284 sM_0 (Nat.le_of_ble_eq_true rfl) rfl rfl (Nat.le_of_ble_eq_true rfl) d_X12_readNet_240 rfl (fun x53 => ?_)
      refine gg_gd (fun h54 => ?_)
      refine gg_st (go_iast sM_38 h54 d_X12_readNet_243 rfl) ?_
      refine gg_som (fun s55 => ?_)
      refine gg_st (go_iinc 3 d_X12_readNet_244 rfl (v := v47 + (1 : Int32)) (by rw [ci_1]) (by decide) (L' := [some (.ref (0)), none, some (.int c2), some (.int (v47 + (1 : Int32)))]) rfl rfl) ?_
      refine gg_st (go_goto (pc' := 205) d_X12_readNet_247 (by decide)) ?_
      exact ih (v47 + (1 : Int32)) s55
    · refine gg_st (go_fg [some (.ref (0)), none, some (.int c2), none] ⟨rfl, ⟨rfl, trivial⟩⟩) ?_
      exact gg_end rfl
set_option maxRecDepth 20000 in
theorem g_f_X12_readNet_L183 (l : Launch) (w : Wo) (F : Nat) : ∀ (n : Nat) (v41 : Int32) (g : St), GG l w shM m_X12_readNet 6 183 [some (.ref (0)), none, some (.int v41), none] [] g (f_X12_readNet_L183 F n v41 g) (fun (t : St) => .inl (256, [some (.ref (0)), none, none, none], [], t)) := by
  intro n
  induction n with
  | zero =>
    intro v41 g
    exact gg_none
  | succ n ih =>
    intro v41 g
    rw [f_X12_readNet_L183]
    refine gg_st (go_iload_n 2 d_X12_readNet_183 rfl rfl rfl) ?_
    refine gg_st (go_aload_n 0 d_X12_readNet_184 rfl rfl rfl) ?_
    refine gg_st (go_getI (j := 49) cf12 sM_0 rfl (by decide) fl_X12_261 d_X12_readNet_185 rfl) ?_
    refine gg_br (br_icmp_ge (tgt := 256) (pc' := 191) d_X12_readNet_188 (by decide) rfl) (fun h43 => ?_) (fun h43 => ?_)
    · refine gg_st (go_aload_n 0 d_X12_readNet_191 rfl rfl rfl) ?_
      refine gg_st (go_getR (j := 64) cf12 sM_0 rfl (by decide) fl_X12_128 d_X12_readNet_192 rfl) ?_
      refine gg_st (go_iload_n 2 d_X12_readNet_195 rfl rfl rfl) ?_
      refine gg_st (go_aload_n 0 d_X12_readNet_196 rfl rfl rfl) ?_
      refine gg_st (go_getR (j := 51) cf12 sM_0 rfl (by decide) fl_X12_98 d_X12_readNet_197 rfl) ?_
      refine gg_st (go_iload_n 2 d_X12_readNet_200 rfl rfl rfl) ?_
      refine gg_gd (fun h44 => ?_)
      refine gg_st (go_iald sM_27 h44 d_X12_readNet_201 rfl) ?_
      refine gg_gd (fun h45 => ?_)
      refine gg_st (go_iast sM_37 h45 d_X12_readNet_202 rfl) ?_
      refine gg_som (fun s46 => ?_)
      refine gg_st (go_iconst d_X12_readNet_203 ci_0 rfl) ?_
      refine gg_st (go_istore_n 3 d_X12_readNet_204 rfl (by decide) (L' := [some (.ref (0)), none, some (.int v41), some (.int (0 : Int32))]) rfl rfl) ?_
      refine gg_bind 250 (fun (t56 : St) => [some (.ref (0)), none, some (.int v41), none]) (fun (t56 : St) => []) (fun (t56 : St) => t56) (g_f_X12_readNet_L205 l w F v41 F (0 : Int32) s46) (fun t56 => ?_)
      refine gg_st (go_iinc 2 d_X12_readNet_250 rfl (v := v41 + (1 : Int32)) (by rw [ci_1]) (by decide) (L' := [some (.ref (0)), none, some (.int (v41 + (1 : Int32))), none]) rfl rfl) ?_
      refine gg_st (go_goto (pc' := 183) d_X12_readNet_253 (by decide)) ?_
      exact ih (v41 + (1 : Int32)) t56
    · refine gg_st (go_fg [some (.ref (0)), none, none, none] ⟨rfl, trivial⟩) ?_
      exact gg_end rfl
set_option maxRecDepth 20000 in
theorem g_f_X12_readNet_L258 (l : Launch) (w : Wo) (F : Nat) : ∀ (n : Nat) (v58 : Int32) (g : St), GG l w shM m_X12_readNet 6 258 [some (.ref (0)), none, some (.int v58), none] [] g (f_X12_readNet_L258 F n v58 g) (fun (t : St) => .inl (322, [some (.ref (0)), none, none, none], [], t)) := by
  intro n
  induction n with
  | zero =>
    intro v58 g
    exact gg_none
  | succ n ih =>
    intro v58 g
    rw [f_X12_readNet_L258]
    refine gg_st (go_iload_n 2 d_X12_readNet_258 rfl rfl rfl) ?_
    refine gg_st (go_aload_n 0 d_X12_readNet_259 rfl rfl rfl) ?_
    refine gg_st (go_getI (j := 54) cf12 sM_0 rfl (by decide) fl_X12_267 d_X12_readNet_260 rfl) ?_
    refine gg_br (br_icmp_ge (tgt := 322) (pc' := 266) d_X12_readNet_263 (by decide) rfl) (fun h60 => ?_) (fun h60 => ?_)
    · refine gg_st (go_aload_n 0 d_X12_readNet_266 rfl rfl rfl) ?_
      refine gg_st (go_getR (j := 56) cf12 sM_0 rfl (by decide) fl_X12_110 d_X12_readNet_267 rfl) ?_
      refine gg_st (go_iload_n 2 d_X12_readNet_270 rfl rfl rfl) ?_
      refine gg_gd (fun h61 => ?_)
      refine gg_st (go_iald sM_31 h61 d_X12_readNet_271 rfl) ?_
      refine gg_st (go_iconst d_X12_readNet_272 ci_1 rfl) ?_
      refine gg_bind 316 (fun (t62 : St) => [some (.ref (0)), none, some (.int v58), none]) (fun (t62 : St) => []) (fun (t62 : St) => t62) ?_ (fun t62 => ?_)
      · refine gg_br (br_icmp_ne (tgt := 316) (pc' := 276) d_X12_readNet_273 (by decide) rfl) (fun h65 => ?_) (fun h65 => ?_)
        · refine gg_st (go_aload_n 0 d_X12_readNet_276 rfl rfl rfl) ?_
          refine gg_st (go_getR (j := 61) cf12 sM_0 rfl (by decide) fl_X12_122 d_X12_readNet_277 rfl) ?_
          refine gg_st (go_sipush d_X12_readNet_280 cs_1000 rfl) ?_
          refine gg_st (go_iconst d_X12_readNet_283 ci_2 rfl) ?_
          refine gg_st (go_iload_n 2 d_X12_readNet_284 rfl rfl rfl) ?_
          refine gg_st (go_imul d_X12_readNet_285 rfl) ?_
          refine gg_st (go_iadd d_X12_readNet_286 rfl) ?_
          refine gg_st (go_iconst d_X12_readNet_287 ci_1 rfl) ?_
          refine gg_gd (fun h66 => ?_)
          refine gg_st (go_zast (Or.inr rfl) sM_35 h66 d_X12_readNet_288 rfl) ?_
          refine gg_som (fun s67 => ?_)
          refine gg_st (go_aload_n 0 d_X12_readNet_289 rfl rfl rfl) ?_
          refine gg_st (go_getR (j := 67) cf12 sM_0 rfl (by decide) fl_X12_134 d_X12_readNet_290 rfl) ?_
          refine gg_st (go_aload_n 0 d_X12_readNet_293 rfl rfl rfl) ?_
          refine gg_st (go_getR (j := 62) cf12 sM_0 rfl (by decide) fl_X12_125 d_X12_readNet_294 rfl) ?_
          refine gg_st (go_iload_n 2 d_X12_readNet_297 rfl rfl rfl) ?_
          refine gg_gd (fun h68 => ?_)
          refine gg_st (go_iald sM_36 h68 d_X12_readNet_298 rfl) ?_
          refine gg_st (go_aload_n 0 d_X12_readNet_299 rfl rfl rfl) ?_
          refine gg_st (go_aload_n 0 d_X12_readNet_300 rfl rfl rfl) ?_
          refine gg_st (go_getR (j := 53) cf12 sM_0 rfl (by decide) fl_X12_104 d_X12_readNet_301 rfl) ?_
          refine gg_st (go_sipush d_X12_readNet_304 cs_1000 rfl) ?_
          refine gg_st (go_iconst d_X12_readNet_307 ci_2 rfl) ?_
          refine gg_st (go_iload_n 2 d_X12_readNet_308 rfl rfl rfl) ?_
          refine gg_st (go_imul d_X12_readNet_309 rfl) ?_
          refine gg_st (go_iadd d_X12_readNet_310 rfl) ?_
          refine gg_gd (fun h69 => ?_)
          refine gg_st (go_iald sM_29 h69 d_X12_readNet_311 rfl) ?_
          refine gv_IS (k_X12_follow l w F (s67.1 (29) (ix ((1000 : Int32) + ((2 : Int32) * v58)))) s67) cv_X12_284 sM_0 (Nat.le_of_ble_eq_true rfl) rfl rfl (Nat.le_of_ble_eq_true rfl) d_X12_readNet_312 rfl (fun x70 => ?_)
          refine gg_gd (fun h71 => ?_)
          refine gg_st (go_iast sM_39 h71 d_X12_readNet_315 rfl) ?_
          refine gg_som (fun s72 => ?_)
          exact gg_end rfl
        · exact gg_end rfl
      · refine gg_st (go_iinc 2 d_X12_readNet_316 rfl (v := v58 + (1 : Int32)) (by rw [ci_1]) (by decide) (L' := [some (.ref (0)), none, some (.int (v58 + (1 : Int32))), none]) rfl rfl) ?_
        refine gg_st (go_goto (pc' := 258) d_X12_readNet_319 (by decide)) ?_
        exact ih (v58 + (1 : Int32)) t62
    · refine gg_st (go_fg [some (.ref (0)), none, none, none] ⟨rfl, trivial⟩) ?_
      exact gg_end rfl
set_option maxRecDepth 20000 in
theorem k_X12_readNet (l : Launch) (w : Wo) (F : Nat) (σ : St) : K l w shM m_X12_readNet 6 [.ref (0)] σ (f_X12_readNet F σ) (rIS) := by
  refine k_of (L := [some (.ref (0)), none, none, none]) (plainFor_of_name (by decide +kernel)) 3 rfl (Nat.le_of_ble_eq_true rfl) ?_
  unfold f_X12_readNet
  refine gg_st (go_aload_n 0 d_X12_readNet_0 rfl rfl rfl) ?_
  refine gg_st (go_getI (j := 48) cf12 sM_0 rfl (by decide) fl_X12_320 d_X12_readNet_1 rfl) ?_
  refine gg_br (br_if_eq (tgt := 17) (pc' := 7) d_X12_readNet_4 (by decide) rfl) (fun h2 => ?_) (fun h2 => ?_)
  · refine gg_st (go_aload_n 0 d_X12_readNet_17 rfl rfl rfl) ?_
    refine gg_st (go_iconst d_X12_readNet_18 ci_1 rfl) ?_
    refine gg_st (go_putZ (Or.inr rfl) (j := 48) cf12 sM_0 rfl (by decide) rfl rfl fl_X12_320 d_X12_readNet_19 rfl) ?_
    refine gg_som (fun s3 => ?_)
    refine gg_st (go_aload_n 0 d_X12_readNet_22 rfl rfl rfl) ?_
    refine gg_st (go_sipush d_X12_readNet_23 cs_200 rfl) ?_
    refine gv_V (k_X12_beginSheet l w (200 : Int32) s3) cv_X12_299 sM_0 (Nat.le_of_ble_eq_true rfl) rfl rfl (Nat.le_of_ble_eq_true rfl) d_X12_readNet_26 rfl (fun s4 => ?_)
    refine gg_st (go_aload_n 0 d_X12_readNet_29 rfl rfl rfl) ?_
    refine gv_V (k_X12_take l w F  s4) cv_X12_245 sM_0 (Nat.le_of_ble_eq_true rfl) rfl rfl (Nat.le_of_ble_eq_true rfl) d_X12_readNet_30 rfl (fun s5 => ?_)
    refine gg_st (go_aload_n 0 d_X12_readNet_33 rfl rfl rfl) ?_
    refine gg_st (go_bipush d_X12_readNet_34 cb_59 rfl) ?_
    refine gv_I (k_X12_isSign l w (59 : Int32) s5) cv_X12_238 sM_0 (Nat.le_of_ble_eq_true rfl) rfl rfl (Nat.le_of_ble_eq_true rfl) d_X12_readNet_36 rfl (fun x6 => ?_)
    refine gg_jp 51 (fun (t7 : St) => [some (.ref (0)), none, none, none]) (fun (t7 : St) => []) (fun (t7 : St) => t7) (fun t7 => ?_) (fun jp8 hjp8 => ?_)
    · refine gg_st (go_aload_n 0 d_X12_readNet_51 rfl rfl rfl) ?_
      refine gg_st (go_bipush d_X12_readNet_52 cb_59 rfl) ?_
      refine gv_I (k_X12_isSign l w (59 : Int32) t7) cv_X12_238 sM_0 (Nat.le_of_ble_eq_true rfl) rfl rfl (Nat.le_of_ble_eq_true rfl) d_X12_readNet_54 rfl (fun x9 => ?_)
      refine gg_br (br_if_ne (tgt := 65) (pc' := 60) d_X12_readNet_57 (by decide) rfl) (fun h11 => ?_) (fun h11 => ?_)
      · refine gg_st (go_aload_n 0 d_X12_readNet_60 rfl rfl rfl) ?_
        refine gv_IS (k_X12_wrong l w  t7) cv_X12_241 sM_0 (Nat.le_of_ble_eq_true rfl) rfl rfl (Nat.le_of_ble_eq_true rfl) d_X12_readNet_61 rfl (fun x12 => ?_)
        refine gg_gd (fun h13 => ?_)
        exact gg_zret h13 rfl d_X12_readNet_64 rfl
      · refine gg_st (go_aload_n 0 d_X12_readNet_65 rfl rfl rfl) ?_
        refine gg_st (go_iconst d_X12_readNet_66 ci_0 rfl) ?_
        refine gg_st (go_putI (j := 66) cf12 sM_0 rfl (by decide) rfl rfl fl_X12_324 d_X12_readNet_67 rfl) ?_
        refine gg_som (fun s14 => ?_)
        refine gg_st (go_iconst d_X12_readNet_70 ci_1 rfl) ?_
        refine gg_st (go_istore_n 1 d_X12_readNet_71 rfl (by decide) (L' := [some (.ref (0)), some (.int (1 : Int32)), none, none]) rfl rfl) ?_
        refine gg_st (go_iconst d_X12_readNet_72 ci_0 rfl) ?_
        refine gg_st (go_istore_n 2 d_X12_readNet_73 rfl (by decide) (L' := [some (.ref (0)), some (.int (1 : Int32)), some (.int (0 : Int32)), none]) rfl rfl) ?_
        refine gg_bind 142 (fun (t32 : Int32 × St) => [some (.ref (0)), some (.int t32.1), none, none]) (fun (t32 : Int32 × St) => []) (fun (t32 : Int32 × St) => t32.2) (g_f_X12_readNet_L74 l w F F (1 : Int32) (0 : Int32) s14) (fun t32 => ?_)
        refine gg_st (go_iload_n 1 d_X12_readNet_142 rfl rfl rfl) ?_
        refine gg_jp 162 (fun (t33 : St) => [some (.ref (0)), none, none, none]) (fun (t33 : St) => []) (fun (t33 : St) => t33) (fun t33 => ?_) (fun jp34 hjp34 => ?_)
        · refine gg_st (go_aload_n 0 d_X12_readNet_162 rfl rfl rfl) ?_
          refine gg_st (go_bipush d_X12_readNet_163 cb_7 rfl) ?_
          refine gg_st (go_aload_n 0 d_X12_readNet_165 rfl rfl rfl) ?_
          refine gg_st (go_getI (j := 30) cf12 sM_0 rfl (by decide) fl_X12_202 d_X12_readNet_166 rfl) ?_
          refine gv_IS (k_X12_fail l w (7 : Int32) (t33.1 (0) 30) t33) cv_X12_234 sM_0 (Nat.le_of_ble_eq_true rfl) rfl rfl (Nat.le_of_ble_eq_true rfl) d_X12_readNet_169 rfl (fun x35 => ?_)
          refine gg_gd (fun h36 => ?_)
          exact gg_zret h36 rfl d_X12_readNet_172 rfl
        refine gg_two (c := (t32.1 = 0) ∨ (¬ ((t32.2.1 (0) 66) ≤ (8 : Int32)))) (pA := 162) (pB := 155) (LL := [some (.ref (0)), some (.int t32.1), none, none]) (ss := []) ?_ ?_ (fun hA76 hB77 => ?_)
        · refine gg_st (go_fg [some (.ref (0)), none, none, none] ⟨rfl, trivial⟩) ?_
          exact hjp34 t32.2
        · refine gg_st (go_aload_n 0 d_X12_readNet_155 rfl rfl rfl) ?_
          refine gv_IS (k_X12_fitAll l w F  t32.2) cv_X12_308 sM_0 (Nat.le_of_ble_eq_true rfl) rfl rfl (Nat.le_of_ble_eq_true rfl) d_X12_readNet_156 rfl (fun x37 => ?_)
          refine gg_br (br_if_ne (tgt := 173) (pc' := 162) d_X12_readNet_159 (by decide) rfl) (fun h39 => ?_) (fun h39 => ?_)
          · refine gg_st (go_fg [some (.ref (0)), none, none, none] ⟨rfl, trivial⟩) ?_
            exact hjp34 x37.2
          · refine gg_st (go_aload_n 0 d_X12_readNet_173 rfl rfl rfl) ?_
            refine gg_st (go_aload_n 0 d_X12_readNet_174 rfl rfl rfl) ?_
            refine gg_st (go_getI (j := 49) cf12 sM_0 rfl (by decide) fl_X12_261 d_X12_readNet_175 rfl) ?_
            refine gg_st (go_putI (j := 63) cf12 sM_0 rfl (by decide) rfl rfl fl_X12_327 d_X12_readNet_178 rfl) ?_
            refine gg_som (fun s40 => ?_)
            refine gg_st (go_iconst d_X12_readNet_181 ci_0 rfl) ?_
            refine gg_st (go_istore_n 2 d_X12_readNet_182 rfl (by decide) (L' := [some (.ref (0)), some (.int t32.1), some (.int (0 : Int32)), none]) rfl rfl) ?_
            refine gg_st (go_fg [some (.ref (0)), none, some (.int (0 : Int32)), none] ⟨rfl, ⟨rfl, trivial⟩⟩) ?_
            refine gg_bind 256 (fun (t57 : St) => [some (.ref (0)), none, none, none]) (fun (t57 : St) => []) (fun (t57 : St) => t57) (g_f_X12_readNet_L183 l w F F (0 : Int32) s40) (fun t57 => ?_)
            refine gg_st (go_iconst d_X12_readNet_256 ci_0 rfl) ?_
            refine gg_st (go_istore_n 2 d_X12_readNet_257 rfl (by decide) (L' := [some (.ref (0)), none, some (.int (0 : Int32)), none]) rfl rfl) ?_
            refine gg_bind 322 (fun (t73 : St) => [some (.ref (0)), none, none, none]) (fun (t73 : St) => []) (fun (t73 : St) => t73) (g_f_X12_readNet_L258 l w F F (0 : Int32) t57) (fun t73 => ?_)
            refine gg_st (go_aload_n 0 d_X12_readNet_322 rfl rfl rfl) ?_
            refine gg_st (go_aload_n 0 d_X12_readNet_323 rfl rfl rfl) ?_
            refine gv_IS (k_X12_sheetRings l w F  t73) cv_X12_314 sM_0 (Nat.le_of_ble_eq_true rfl) rfl rfl (Nat.le_of_ble_eq_true rfl) d_X12_readNet_324 rfl (fun x74 => ?_)
            refine gg_st (go_putI (j := 68) cf12 sM_0 rfl (by decide) rfl rfl fl_X12_330 d_X12_readNet_327 rfl) ?_
            refine gg_som (fun s75 => ?_)
            refine gg_st (go_iconst d_X12_readNet_330 ci_1 rfl) ?_
            exact gg_zret (Or.inr rfl) rfl d_X12_readNet_331 rfl
        refine gg_brs (br_if_eq (tgt := 162) (pc' := 146) d_X12_readNet_143 (by decide) rfl) (fun h78 => ?_) (fun h78 => ?_)
        · exact gg_eq (if_pos (Or.inl h78)) hA76
        · refine gg_st (go_aload_n 0 d_X12_readNet_146 rfl rfl rfl) ?_
          refine gg_st (go_getI (j := 66) cf12 sM_0 rfl (by decide) fl_X12_324 d_X12_readNet_147 rfl) ?_
          refine gg_st (go_bipush d_X12_readNet_150 cb_8 rfl) ?_
          refine gg_brs (br_icmp_gt (tgt := 162) (pc' := 155) d_X12_readNet_152 (by decide) rfl) (fun h79 => ?_) (fun h79 => ?_)
          · exact gg_eq (if_neg (fun z => z.elim h78 (fun z => z h79))) hB77
          · exact gg_eq (if_pos (Or.inr h79)) hA76
    refine gg_br (br_if_ne (tgt := 51) (pc' := 42) d_X12_readNet_39 (by decide) rfl) (fun h80 => ?_) (fun h80 => ?_)
    · refine gg_st (go_aload_n 0 d_X12_readNet_42 rfl rfl rfl) ?_
      refine gv_IS (k_X12_readLinks l w F  s5) cv_X12_305 sM_0 (Nat.le_of_ble_eq_true rfl) rfl rfl (Nat.le_of_ble_eq_true rfl) d_X12_readNet_43 rfl (fun x81 => ?_)
      refine gg_br (br_if_ne (tgt := 51) (pc' := 49) d_X12_readNet_46 (by decide) rfl) (fun h82 => ?_) (fun h82 => ?_)
      · refine gg_st (go_iconst d_X12_readNet_49 ci_0 rfl) ?_
        exact gg_zret (Or.inl rfl) rfl d_X12_readNet_50 rfl
      · exact hjp8 x81.2
    · exact hjp8 s5
  · refine gg_st (go_aload_n 0 d_X12_readNet_7 rfl rfl rfl) ?_
    refine gg_st (go_iconst d_X12_readNet_8 ci_4 rfl) ?_
    refine gg_st (go_aload_n 0 d_X12_readNet_9 rfl rfl rfl) ?_
    refine gg_st (go_getI (j := 30) cf12 sM_0 rfl (by decide) fl_X12_202 d_X12_readNet_10 rfl) ?_
    refine gv_IS (k_X12_fail l w (4 : Int32) (σ.1 (0) 30) σ) cv_X12_234 sM_0 (Nat.le_of_ble_eq_true rfl) rfl rfl (Nat.le_of_ble_eq_true rfl) d_X12_readNet_13 rfl (fun x83 => ?_)
    refine gg_gd (fun h84 => ?_)
    exact gg_zret h84 rfl d_X12_readNet_16 rfl
def f_X12_readSide_L64 (F : Nat) (c1 : Int32) (c2 : Int32) (c3 : Int32) (c6 : Int32) (k0 : Int32 × St → Option (Int32 × St)) (k1 : St → Option (Int32 × St)) (k2 : St → Option (Int32 × St)) : Nat → Int32 → Int32 → St → Option (Int32 × St)
  | 0, _, _, _ => none
  | n + 1, v13, v14, g =>
    if v14 = 0 then (
      k0 (v13, g))
    else (
      Option.bind (f_X12_take F g) fun s16 =>
      if (s16.1 (0) 29) = (1 : Int32) then (
        Option.bind (f_X12_useName F s16) fun x18 =>
        if x18.1 < 0 then (
          k1 x18.2)
        else (
          if inb c2 16 then (
            Option.bind (
              if v13 < (x18.2.1 (18) (ix c2)) then (
                Option.bind (f_X12_join (((1200 : Int32) + ((5 : Int32) * c1)) + v13) x18.1 x18.2) fun s24 =>
                some s24)
              else (
                some x18.2)) fun t22 =>
            Option.bind (some (v13 + (1 : Int32))) fun x25 =>
            Option.bind (f_X12_take F t22) fun s26 =>
            Option.bind (some (f_X12_isSign (44 : Int32) s26)) fun x27 =>
            f_X12_readSide_L64 F c1 c2 c3 c6 k0 k1 k2 n x25 x27 s26)
          else none))
      else (
        k2 s16))
def f_X12_readSide (F : Nat) (p1 : Int32) (σ : St) : Option (Int32 × St) :=
  if (σ.1 (0) 29) = (2 : Int32) then (
    Option.bind (f_X12_kindNamed F (σ.2 (0) 32) σ) fun x2 =>
    Option.bind (some (σ.1 (0) 30)) fun x3 =>
    if x2 < 0 then (
      Option.bind (f_X12_fail (3 : Int32) x3 σ) fun x7 =>
      if x7.1 = 0 ∨ x7.1 = 1 then some (x7.1, x7.2) else none)
    else (
      if inb p1 2 then (
        Option.bind (some (seti σ (32) (ix p1) x2)) fun s10 =>
        Option.bind (f_X12_take F s10) fun s11 =>
        Option.bind (some (f_X12_isSign (40 : Int32) s11)) fun x12 =>
        f_X12_readSide_L64 F p1 x2 x3 x12
          (fun (t28 : Int32 × St) =>
            if (x12 = 0) ∨ (¬ ((f_X12_isSign (41 : Int32) t28.2) = 0)) then (
              if inb x2 16 then (
                if t28.1 = (t28.2.1 (18) (ix x2)) then (
                  if x12 = 0 then (
                    some ((1 : Int32), t28.2))
                  else (
                    Option.bind (f_X12_take F t28.2) fun s32 =>
                    some ((1 : Int32), s32)))
                else (
                  Option.bind (f_X12_fail (5 : Int32) x3 t28.2) fun x33 =>
                  if x33.1 = 0 ∨ x33.1 = 1 then some (x33.1, x33.2) else none))
              else none)
            else (
              Option.bind (f_X12_wrong t28.2) fun x35 =>
              if x35.1 = 0 ∨ x35.1 = 1 then some (x35.1, x35.2) else none))
          (fun (t41 : St) =>
            Option.bind (f_X12_fail (4 : Int32) (t41.1 (0) 30) t41) fun x42 =>
            if x42.1 = 0 ∨ x42.1 = 1 then some (x42.1, x42.2) else none)
          (fun (t44 : St) =>
            Option.bind (f_X12_wrong t44) fun x45 =>
            if x45.1 = 0 ∨ x45.1 = 1 then some (x45.1, x45.2) else none) F (1 : Int32) x12 s11)
      else none))
  else (
    Option.bind (f_X12_wrong σ) fun x47 =>
    if x47.1 = 0 ∨ x47.1 = 1 then some (x47.1, x47.2) else none)
set_option maxRecDepth 20000 in
theorem g_f_X12_readSide_L64 (l : Launch) (w : Wo) (F : Nat) (c1 : Int32) (c2 : Int32) (c3 : Int32) (c6 : Int32) (k0 : Int32 × St → Option (Int32 × St)) (k1 : St → Option (Int32 × St)) (k2 : St → Option (Int32 × St)) (hk0 : ∀ t, GG l w shM m_X12_readSide 4 152 [some (.ref (0)), none, some (.int c2), some (.int c3), some (.int t.1), none, some (.int c6), none] [] t.2 (k0 t) (fun q => .inr ((rIS) q))) (hk1 : ∀ t, GG l w shM m_X12_readSide 4 97 [some (.ref (0)), none, none, none, none, none, none, none] [] t (k1 t) (fun q => .inr ((rIS) q))) (hk2 : ∀ t, GG l w shM m_X12_readSide 4 81 [some (.ref (0)), none, none, none, none, none, none, none] [] t (k2 t) (fun q => .inr ((rIS) q))) : ∀ (n : Nat) (v13 : Int32) (v14 : Int32) (g : St), GG l w shM m_X12_readSide 4 64 [some (.ref (0)), some (.int c1), some (.int c2), some (.int c3), some (.int v13), some (.int v14), some (.int c6), none] [] g (f_X12_readSide_L64 F c1 c2 c3 c6 k0 k1 k2 n v13 v14 g) (fun q => .inr ((rIS) q)) := by
  intro n
  induction n with
  | zero =>
    intro v13 v14 g
    exact gg_none
  | succ n ih =>
    intro v13 v14 g
    rw [f_X12_readSide_L64]
    refine gg_st (go_iload 5 d_X12_readSide_64 rfl rfl) ?_
    refine gg_br (br_if_eq (tgt := 152) (pc' := 69) d_X12_readSide_66 (by decide) rfl) (fun h15 => ?_) (fun h15 => ?_)
    · refine gg_st (go_fg [some (.ref (0)), none, some (.int c2), some (.int c3), some (.int v13), none, some (.int c6), none] ⟨rfl, ⟨rfl, ⟨rfl, ⟨rfl, ⟨rfl, trivial⟩⟩⟩⟩⟩) ?_
      exact hk0 (v13, g)
    · refine gg_st (go_aload_n 0 d_X12_readSide_69 rfl rfl rfl) ?_
      refine gv_V (k_X12_take l w F  g) cv_X12_245 sM_0 (Nat.le_of_ble_eq_true rfl) rfl rfl (Nat.le_of_ble_eq_true rfl) d_X12_readSide_70 rfl (fun s16 => ?_)
      refine gg_st (go_aload_n 0 d_X12_readSide_73 rfl rfl rfl) ?_
      refine gg_st (go_getI (j := 29) cf12 sM_0 rfl (by decide) fl_X12_205 d_X12_readSide_74 rfl) ?_
      refine gg_st (go_iconst d_X12_readSide_77 ci_1 rfl) ?_
      refine gg_br (br_icmp_eq (tgt := 86) (pc' := 81) d_X12_readSide_78 (by decide) rfl) (fun h17 => ?_) (fun h17 => ?_)
      · refine gg_st (go_aload_n 0 d_X12_readSide_86 rfl rfl rfl) ?_
        refine gv_IS (k_X12_useName l w F  s16) cv_X12_270 sM_0 (Nat.le_of_ble_eq_true rfl) rfl rfl (Nat.le_of_ble_eq_true rfl) d_X12_readSide_87 rfl (fun x18 => ?_)
        refine gg_st (go_istore 7 d_X12_readSide_90 (by decide) (L' := [some (.ref (0)), some (.int c1), some (.int c2), some (.int c3), some (.int v13), some (.int v14), some (.int c6), some (.int x18.1)]) rfl rfl) ?_
        refine gg_st (go_iload 7 d_X12_readSide_92 rfl rfl) ?_
        refine gg_br (br_if_ge (tgt := 107) (pc' := 97) d_X12_readSide_94 (by decide) rfl) (fun h20 => ?_) (fun h20 => ?_)
        · refine gg_st (go_fg [some (.ref (0)), none, none, none, none, none, none, none] ⟨rfl, trivial⟩) ?_
          exact hk1 x18.2
        · refine gg_st (go_iload 4 d_X12_readSide_107 rfl rfl) ?_
          refine gg_st (go_aload_n 0 d_X12_readSide_109 rfl rfl rfl) ?_
          refine gg_st (go_getR (j := 38) cf12 sM_0 rfl (by decide) fl_X12_71 d_X12_readSide_110 rfl) ?_
          refine gg_st (go_iload_n 2 d_X12_readSide_113 rfl rfl rfl) ?_
          refine gg_gd (fun h21 => ?_)
          refine gg_st (go_iald sM_18 h21 d_X12_readSide_114 rfl) ?_
          refine gg_bind 134 (fun (t22 : St) => [some (.ref (0)), some (.int c1), some (.int c2), some (.int c3), some (.int v13), none, some (.int c6), none]) (fun (t22 : St) => []) (fun (t22 : St) => t22) ?_ (fun t22 => ?_)
          · refine gg_br (br_icmp_ge (tgt := 134) (pc' := 118) d_X12_readSide_115 (by decide) rfl) (fun h23 => ?_) (fun h23 => ?_)
            · refine gg_st (go_aload_n 0 d_X12_readSide_118 rfl rfl rfl) ?_
              refine gg_st (go_sipush d_X12_readSide_119 cs_1200 rfl) ?_
              refine gg_st (go_iconst d_X12_readSide_122 ci_5 rfl) ?_
              refine gg_st (go_iload_n 1 d_X12_readSide_123 rfl rfl rfl) ?_
              refine gg_st (go_imul d_X12_readSide_124 rfl) ?_
              refine gg_st (go_iadd d_X12_readSide_125 rfl) ?_
              refine gg_st (go_iload 4 d_X12_readSide_126 rfl rfl) ?_
              refine gg_st (go_iadd d_X12_readSide_128 rfl) ?_
              refine gg_st (go_iload 7 d_X12_readSide_129 rfl rfl) ?_
              refine gv_V (k_X12_join l w (((1200 : Int32) + ((5 : Int32) * c1)) + v13) x18.1 x18.2) cv_X12_277 sM_0 (Nat.le_of_ble_eq_true rfl) rfl rfl (Nat.le_of_ble_eq_true rfl) d_X12_readSide_131 rfl (fun s24 => ?_)
              refine gg_st (go_fg [some (.ref (0)), some (.int c1), some (.int c2), some (.int c3), some (.int v13), none, some (.int c6), none] ⟨rfl, ⟨rfl, ⟨rfl, ⟨rfl, ⟨rfl, ⟨rfl, trivial⟩⟩⟩⟩⟩⟩) ?_
              exact gg_end rfl
            · refine gg_st (go_fg [some (.ref (0)), some (.int c1), some (.int c2), some (.int c3), some (.int v13), none, some (.int c6), none] ⟨rfl, ⟨rfl, ⟨rfl, ⟨rfl, ⟨rfl, ⟨rfl, trivial⟩⟩⟩⟩⟩⟩) ?_
              exact gg_end rfl
          · refine gg_st (go_iinc 4 d_X12_readSide_134 rfl (v := v13 + (1 : Int32)) (by rw [ci_1]) (by decide) (L' := [some (.ref (0)), some (.int c1), some (.int c2), some (.int c3), some (.int (v13 + (1 : Int32))), none, some (.int c6), none]) rfl rfl) ?_
            refine gg_nm (fun (x25 : Int32) => [some (.ref (0)), some (.int c1), some (.int c2), some (.int c3), some (.int x25), none, some (.int c6), none]) (fun _ => []) (fun x25 => ?_)
            refine gg_st (go_aload_n 0 d_X12_readSide_137 rfl rfl rfl) ?_
            refine gv_V (k_X12_take l w F  t22) cv_X12_245 sM_0 (Nat.le_of_ble_eq_true rfl) rfl rfl (Nat.le_of_ble_eq_true rfl) d_X12_readSide_138 rfl (fun s26 => ?_)
            refine gg_st (go_aload_n 0 d_X12_readSide_141 rfl rfl rfl) ?_
            refine gg_st (go_bipush d_X12_readSide_142 cb_44 rfl) ?_
            refine gv_I (k_X12_isSign l w (44 : Int32) s26) cv_X12_238 sM_0 (Nat.le_of_ble_eq_true rfl) rfl rfl (Nat.le_of_ble_eq_true rfl) d_X12_readSide_144 rfl (fun x27 => ?_)
            refine gg_st (go_istore 5 d_X12_readSide_147 (by decide) (L' := [some (.ref (0)), some (.int c1), some (.int c2), some (.int c3), some (.int x25), some (.int x27), some (.int c6), none]) rfl rfl) ?_
            refine gg_st (go_goto (pc' := 64) d_X12_readSide_149 (by decide)) ?_
            exact ih x25 x27 s26
      · refine gg_st (go_fg [some (.ref (0)), none, none, none, none, none, none, none] ⟨rfl, trivial⟩) ?_
        exact hk2 s16
set_option maxRecDepth 20000 in
theorem k_X12_readSide (l : Launch) (w : Wo) (F : Nat) (p1 : Int32) (σ : St) : K l w shM m_X12_readSide 4 [.ref (0), .int p1] σ (f_X12_readSide F p1 σ) (rIS) := by
  refine k_of (L := [some (.ref (0)), some (.int p1), none, none, none, none, none, none]) (plainFor_of_name (by decide +kernel)) 6 rfl (Nat.le_of_ble_eq_true rfl) ?_
  unfold f_X12_readSide
  refine gg_st (go_aload_n 0 d_X12_readSide_0 rfl rfl rfl) ?_
  refine gg_st (go_getI (j := 29) cf12 sM_0 rfl (by decide) fl_X12_205 d_X12_readSide_1 rfl) ?_
  refine gg_st (go_iconst d_X12_readSide_4 ci_2 rfl) ?_
  refine gg_br (br_icmp_eq (tgt := 13) (pc' := 8) d_X12_readSide_5 (by decide) rfl) (fun h1 => ?_) (fun h1 => ?_)
  · refine gg_st (go_aload_n 0 d_X12_readSide_13 rfl rfl rfl) ?_
    refine gg_st (go_aload_n 0 d_X12_readSide_14 rfl rfl rfl) ?_
    refine gg_st (go_getL (j := 32) cf12 sM_0 rfl (by decide) fl_X12_225 d_X12_readSide_15 rfl) ?_
    refine gv_I (k_X12_kindNamed l w F (σ.2 (0) 32) σ) cv_X12_251 sM_0 (Nat.le_of_ble_eq_true rfl) rfl rfl (Nat.le_of_ble_eq_true rfl) d_X12_readSide_18 rfl (fun x2 => ?_)
    refine gg_st (go_istore_n 2 d_X12_readSide_21 rfl (by decide) (L' := [some (.ref (0)), some (.int p1), some (.int x2), none, none, none, none, none]) rfl rfl) ?_
    refine gg_st (go_aload_n 0 d_X12_readSide_22 rfl rfl rfl) ?_
    refine gg_st (go_getI (j := 30) cf12 sM_0 rfl (by decide) fl_X12_202 d_X12_readSide_23 rfl) ?_
    refine gg_nm (fun _ => [some (.ref (0)), some (.int p1), some (.int x2), none, none, none, none, none]) (fun (x3 : Int32) => [.int x3]) (fun x3 => ?_)
    refine gg_st (go_istore_n 3 d_X12_readSide_26 rfl (by decide) (L' := [some (.ref (0)), some (.int p1), some (.int x2), some (.int x3), none, none, none, none]) rfl rfl) ?_
    refine gg_st (go_iload_n 2 d_X12_readSide_27 rfl rfl rfl) ?_
    refine gg_br (br_if_ge (tgt := 38) (pc' := 31) d_X12_readSide_28 (by decide) rfl) (fun h6 => ?_) (fun h6 => ?_)
    · refine gg_st (go_aload_n 0 d_X12_readSide_31 rfl rfl rfl) ?_
      refine gg_st (go_iconst d_X12_readSide_32 ci_3 rfl) ?_
      refine gg_st (go_iload_n 3 d_X12_readSide_33 rfl rfl rfl) ?_
      refine gv_IS (k_X12_fail l w (3 : Int32) x3 σ) cv_X12_234 sM_0 (Nat.le_of_ble_eq_true rfl) rfl rfl (Nat.le_of_ble_eq_true rfl) d_X12_readSide_34 rfl (fun x7 => ?_)
      refine gg_gd (fun h8 => ?_)
      exact gg_zret h8 rfl d_X12_readSide_37 rfl
    · refine gg_st (go_aload_n 0 d_X12_readSide_38 rfl rfl rfl) ?_
      refine gg_st (go_getR (j := 57) cf12 sM_0 rfl (by decide) fl_X12_113 d_X12_readSide_39 rfl) ?_
      refine gg_st (go_iload_n 1 d_X12_readSide_42 rfl rfl rfl) ?_
      refine gg_st (go_iload_n 2 d_X12_readSide_43 rfl rfl rfl) ?_
      refine gg_gd (fun h9 => ?_)
      refine gg_st (go_iast sM_32 h9 d_X12_readSide_44 rfl) ?_
      refine gg_som (fun s10 => ?_)
      refine gg_st (go_aload_n 0 d_X12_readSide_45 rfl rfl rfl) ?_
      refine gv_V (k_X12_take l w F  s10) cv_X12_245 sM_0 (Nat.le_of_ble_eq_true rfl) rfl rfl (Nat.le_of_ble_eq_true rfl) d_X12_readSide_46 rfl (fun s11 => ?_)
      refine gg_st (go_iconst d_X12_readSide_49 ci_1 rfl) ?_
      refine gg_st (go_istore 4 d_X12_readSide_50 (by decide) (L' := [some (.ref (0)), some (.int p1), some (.int x2), some (.int x3), some (.int (1 : Int32)), none, none, none]) rfl rfl) ?_
      refine gg_st (go_aload_n 0 d_X12_readSide_52 rfl rfl rfl) ?_
      refine gg_st (go_bipush d_X12_readSide_53 cb_40 rfl) ?_
      refine gv_I (k_X12_isSign l w (40 : Int32) s11) cv_X12_238 sM_0 (Nat.le_of_ble_eq_true rfl) rfl rfl (Nat.le_of_ble_eq_true rfl) d_X12_readSide_55 rfl (fun x12 => ?_)
      refine gg_st (go_istore 5 d_X12_readSide_58 (by decide) (L' := [some (.ref (0)), some (.int p1), some (.int x2), some (.int x3), some (.int (1 : Int32)), some (.int x12), none, none]) rfl rfl) ?_
      refine gg_st (go_iload 5 d_X12_readSide_60 rfl rfl) ?_
      refine gg_st (go_istore 6 d_X12_readSide_62 (by decide) (L' := [some (.ref (0)), some (.int p1), some (.int x2), some (.int x3), some (.int (1 : Int32)), some (.int x12), some (.int x12), none]) rfl rfl) ?_
      refine g_f_X12_readSide_L64 l w F p1 x2 x3 x12 _ _ _ (fun t28 => ?_) (fun t41 => ?_) (fun t44 => ?_) F (1 : Int32) x12 s11
      · refine gg_st (go_iload 6 d_X12_readSide_152 rfl rfl) ?_
        refine gg_two (c := (x12 = 0) ∨ (¬ ((f_X12_isSign (41 : Int32) t28.2) = 0))) (pA := 171) (pB := 166) (LL := [some (.ref (0)), none, some (.int x2), some (.int x3), some (.int t28.1), none, some (.int x12), none]) (ss := []) ?_ ?_ (fun hA37 hB38 => ?_)
        · refine gg_st (go_iload 4 d_X12_readSide_171 rfl rfl) ?_
          refine gg_st (go_aload_n 0 d_X12_readSide_173 rfl rfl rfl) ?_
          refine gg_st (go_getR (j := 38) cf12 sM_0 rfl (by decide) fl_X12_71 d_X12_readSide_174 rfl) ?_
          refine gg_st (go_iload_n 2 d_X12_readSide_177 rfl rfl rfl) ?_
          refine gg_gd (fun h29 => ?_)
          refine gg_st (go_iald sM_18 h29 d_X12_readSide_178 rfl) ?_
          refine gg_br (br_icmp_eq (tgt := 189) (pc' := 182) d_X12_readSide_179 (by decide) rfl) (fun h30 => ?_) (fun h30 => ?_)
          · refine gg_st (go_iload 6 d_X12_readSide_189 rfl rfl) ?_
            refine gg_br (br_if_eq (tgt := 198) (pc' := 194) d_X12_readSide_191 (by decide) rfl) (fun h31 => ?_) (fun h31 => ?_)
            · refine gg_st (go_iconst d_X12_readSide_198 ci_1 rfl) ?_
              exact gg_zret (Or.inr rfl) rfl d_X12_readSide_199 rfl
            · refine gg_st (go_aload_n 0 d_X12_readSide_194 rfl rfl rfl) ?_
              refine gv_V (k_X12_take l w F  t28.2) cv_X12_245 sM_0 (Nat.le_of_ble_eq_true rfl) rfl rfl (Nat.le_of_ble_eq_true rfl) d_X12_readSide_195 rfl (fun s32 => ?_)
              refine gg_st (go_iconst d_X12_readSide_198 ci_1 rfl) ?_
              exact gg_zret (Or.inr rfl) rfl d_X12_readSide_199 rfl
          · refine gg_st (go_aload_n 0 d_X12_readSide_182 rfl rfl rfl) ?_
            refine gg_st (go_iconst d_X12_readSide_183 ci_5 rfl) ?_
            refine gg_st (go_iload_n 3 d_X12_readSide_184 rfl rfl rfl) ?_
            refine gv_IS (k_X12_fail l w (5 : Int32) x3 t28.2) cv_X12_234 sM_0 (Nat.le_of_ble_eq_true rfl) rfl rfl (Nat.le_of_ble_eq_true rfl) d_X12_readSide_185 rfl (fun x33 => ?_)
            refine gg_gd (fun h34 => ?_)
            exact gg_zret h34 rfl d_X12_readSide_188 rfl
        · refine gg_st (go_aload_n 0 d_X12_readSide_166 rfl rfl rfl) ?_
          refine gv_IS (k_X12_wrong l w  t28.2) cv_X12_241 sM_0 (Nat.le_of_ble_eq_true rfl) rfl rfl (Nat.le_of_ble_eq_true rfl) d_X12_readSide_167 rfl (fun x35 => ?_)
          refine gg_gd (fun h36 => ?_)
          exact gg_zret h36 rfl d_X12_readSide_170 rfl
        refine gg_brs (br_if_eq (tgt := 171) (pc' := 157) d_X12_readSide_154 (by decide) rfl) (fun h39 => ?_) (fun h39 => ?_)
        · exact gg_eq (if_pos (Or.inl h39)) hA37
        · refine gg_st (go_aload_n 0 d_X12_readSide_157 rfl rfl rfl) ?_
          refine gg_st (go_bipush d_X12_readSide_158 cb_41 rfl) ?_
          refine gg_st (go_vI (k_X12_isSign l w (41 : Int32) t28.2) cv_X12_238 sM_0 (Nat.le_of_ble_eq_true rfl) rfl rfl (Nat.le_of_ble_eq_true rfl) d_X12_readSide_160 rfl) ?_
          refine gg_brs (br_if_ne (tgt := 171) (pc' := 166) d_X12_readSide_163 (by decide) rfl) (fun h40 => ?_) (fun h40 => ?_)
          · exact gg_eq (if_neg (fun z => z.elim h39 (fun z => z h40))) hB38
          · exact gg_eq (if_pos (Or.inr h40)) hA37
      · refine gg_st (go_aload_n 0 d_X12_readSide_97 rfl rfl rfl) ?_
        refine gg_st (go_iconst d_X12_readSide_98 ci_4 rfl) ?_
        refine gg_st (go_aload_n 0 d_X12_readSide_99 rfl rfl rfl) ?_
        refine gg_st (go_getI (j := 30) cf12 sM_0 rfl (by decide) fl_X12_202 d_X12_readSide_100 rfl) ?_
        refine gv_IS (k_X12_fail l w (4 : Int32) (t41.1 (0) 30) t41) cv_X12_234 sM_0 (Nat.le_of_ble_eq_true rfl) rfl rfl (Nat.le_of_ble_eq_true rfl) d_X12_readSide_103 rfl (fun x42 => ?_)
        refine gg_gd (fun h43 => ?_)
        exact gg_zret h43 rfl d_X12_readSide_106 rfl
      · refine gg_st (go_aload_n 0 d_X12_readSide_81 rfl rfl rfl) ?_
        refine gv_IS (k_X12_wrong l w  t44) cv_X12_241 sM_0 (Nat.le_of_ble_eq_true rfl) rfl rfl (Nat.le_of_ble_eq_true rfl) d_X12_readSide_82 rfl (fun x45 => ?_)
        refine gg_gd (fun h46 => ?_)
        exact gg_zret h46 rfl d_X12_readSide_85 rfl
  · refine gg_st (go_aload_n 0 d_X12_readSide_8 rfl rfl rfl) ?_
    refine gv_IS (k_X12_wrong l w  σ) cv_X12_241 sM_0 (Nat.le_of_ble_eq_true rfl) rfl rfl (Nat.le_of_ble_eq_true rfl) d_X12_readSide_9 rfl (fun x47 => ?_)
    refine gg_gd (fun h48 => ?_)
    exact gg_zret h48 rfl d_X12_readSide_12 rfl
