def f_X12_reached (F : Nat) (σ : St) : Option (Int32 × St) :=
  Option.bind (f_X12_reach F (0 : Int32) (0 : Int32) σ) fun s1 =>
  some (s1.1 (51) (ix (0 : Int32)), s1)
set_option maxRecDepth 20000 in
theorem k_X12_reached (l : Launch) (w : Wo) (F : Nat) (σ : St) : K l w shM m_X12_reached 3 [.ref (0)] σ (f_X12_reached F σ) (rIS) := by
  refine k_of (L := [some (.ref (0))]) (plainFor_of_name (by decide +kernel)) 0 rfl (Nat.le_of_ble_eq_true rfl) ?_
  unfold f_X12_reached
  refine gg_st (go_aload_n 0 d_X12_reached_0 rfl rfl rfl) ?_
  refine gg_st (go_iconst d_X12_reached_1 ci_0 rfl) ?_
  refine gg_st (go_iconst d_X12_reached_2 ci_0 rfl) ?_
  refine gv_V (k_X12_reach l w F (0 : Int32) (0 : Int32) σ) cv_X12_463 sM_0 (Nat.le_of_ble_eq_true rfl) rfl rfl (Nat.le_of_ble_eq_true rfl) d_X12_reached_3 rfl (fun s1 => ?_)
  refine gg_st (go_aload_n 0 d_X12_reached_6 rfl rfl rfl) ?_
  refine gg_st (go_getR (j := 80) cf12 sM_0 rfl (by decide) fl_X12_170 d_X12_reached_7 rfl) ?_
  refine gg_st (go_iconst d_X12_reached_10 ci_0 rfl) ?_
  refine gg_st (go_iald sM_51 (by decide) d_X12_reached_11 rfl) ?_
  exact gg_iret rfl d_X12_reached_12 rfl
def f_X12_readPort (F : Nat) (σ : St) : Option (Int32 × St) :=
  if ((σ.1 (0) 29) = (1 : Int32)) ∧ ((σ.1 (0) 33) = (1 : Int32)) then (
    if inb (σ.1 (0) 36) 16 then (
      Option.bind (some (σ.1 (18) (ix (σ.1 (0) 36)))) fun x3 =>
      if x3 = (5 : Int32) then (
        Option.bind (f_X12_fail (4 : Int32) (σ.1 (0) 30) σ) fun x5 =>
        if x5.1 = 0 ∨ x5.1 = 1 then some (x5.1, x5.2) else none)
      else (
        Option.bind (some (((σ.2 (0) 32).toInt32) - (97 : Int32))) fun x7 =>
        Option.bind (f_X12_take F σ) fun s8 =>
        Option.bind (some (f_X12_isSign (43 : Int32) s8)) fun x9 =>
        if (x9 = 0) ∧ ((f_X12_isSign (45 : Int32) s8) = 0) then (
          Option.bind (f_X12_wrong s8) fun x10 =>
          if x10.1 = 0 ∨ x10.1 = 1 then some (x10.1, x10.2) else none)
        else (
          if inb (((5 : Int32) * (s8.1 (0) 36)) + x3) 80 then (
            Option.bind (some (seti s8 (19) (ix (((5 : Int32) * (s8.1 (0) 36)) + x3)) x7)) fun s13 =>
            Option.bind (
              if (s13.1 (0) 34) = (43 : Int32) then (
                some (1 : Int32))
              else (
                some (0 : Int32))) fun t14 =>
            if inb (((5 : Int32) * (s13.1 (0) 36)) + x3) 80 then (
              if t14 = 0 ∨ t14 = 1 then (
                Option.bind (some (seti s13 (20) (ix (((5 : Int32) * (s13.1 (0) 36)) + x3)) t14)) fun s18 =>
                Option.bind (some (s18.1 (0) 36)) fun x19 =>
                if inb x19 16 then (
                  if inb x19 16 then (
                    Option.bind (some (seti s18 (18) (ix x19) ((s18.1 (18) (ix x19)) + (1 : Int32)))) fun s22 =>
                    Option.bind (f_X12_take F s22) fun s23 =>
                    some ((1 : Int32), s23))
                  else none)
                else none)
              else none)
            else none)
          else none)))
    else none)
  else (
    Option.bind (f_X12_wrong σ) fun x28 =>
    if x28.1 = 0 ∨ x28.1 = 1 then some (x28.1, x28.2) else none)
set_option maxRecDepth 20000 in
theorem k_X12_readPort (l : Launch) (w : Wo) (F : Nat) (σ : St) : K l w shM m_X12_readPort 4 [.ref (0)] σ (f_X12_readPort F σ) (rIS) := by
  refine k_of (L := [some (.ref (0)), none, none]) (plainFor_of_name (by decide +kernel)) 2 rfl (Nat.le_of_ble_eq_true rfl) ?_
  unfold f_X12_readPort
  refine gg_st (go_aload_n 0 d_X12_readPort_0 rfl rfl rfl) ?_
  refine gg_st (go_getI (j := 29) cf12 sM_0 rfl (by decide) fl_X12_205 d_X12_readPort_1 rfl) ?_
  refine gg_st (go_iconst d_X12_readPort_4 ci_1 rfl) ?_
  refine gg_two (c := ((σ.1 (0) 29) = (1 : Int32)) ∧ ((σ.1 (0) 33) = (1 : Int32))) (pA := 21) (pB := 16) (LL := [some (.ref (0)), none, none]) (ss := []) ?_ ?_ (fun hA30 hB31 => ?_)
  · refine gg_st (go_aload_n 0 d_X12_readPort_21 rfl rfl rfl) ?_
    refine gg_st (go_getR (j := 38) cf12 sM_0 rfl (by decide) fl_X12_71 d_X12_readPort_22 rfl) ?_
    refine gg_st (go_aload_n 0 d_X12_readPort_25 rfl rfl rfl) ?_
    refine gg_st (go_getI (j := 36) cf12 sM_0 rfl (by decide) fl_X12_248 d_X12_readPort_26 rfl) ?_
    refine gg_gd (fun h2 => ?_)
    refine gg_st (go_iald sM_18 h2 d_X12_readPort_29 rfl) ?_
    refine gg_nm (fun _ => [some (.ref (0)), none, none]) (fun (x3 : Int32) => [.int x3]) (fun x3 => ?_)
    refine gg_st (go_istore_n 1 d_X12_readPort_30 rfl (by decide) (L' := [some (.ref (0)), some (.int x3), none]) rfl rfl) ?_
    refine gg_st (go_iload_n 1 d_X12_readPort_31 rfl rfl rfl) ?_
    refine gg_st (go_iconst d_X12_readPort_32 ci_5 rfl) ?_
    refine gg_br (br_icmp_ne (tgt := 46) (pc' := 36) d_X12_readPort_33 (by decide) rfl) (fun h4 => ?_) (fun h4 => ?_)
    · refine gg_st (go_aload_n 0 d_X12_readPort_36 rfl rfl rfl) ?_
      refine gg_st (go_iconst d_X12_readPort_37 ci_4 rfl) ?_
      refine gg_st (go_aload_n 0 d_X12_readPort_38 rfl rfl rfl) ?_
      refine gg_st (go_getI (j := 30) cf12 sM_0 rfl (by decide) fl_X12_202 d_X12_readPort_39 rfl) ?_
      refine gv_IS (k_X12_fail l w (4 : Int32) (σ.1 (0) 30) σ) cv_X12_234 sM_0 (Nat.le_of_ble_eq_true rfl) rfl rfl (Nat.le_of_ble_eq_true rfl) d_X12_readPort_42 rfl (fun x5 => ?_)
      refine gg_gd (fun h6 => ?_)
      exact gg_zret h6 rfl d_X12_readPort_45 rfl
    · refine gg_st (go_aload_n 0 d_X12_readPort_46 rfl rfl rfl) ?_
      refine gg_st (go_getL (j := 32) cf12 sM_0 rfl (by decide) fl_X12_225 d_X12_readPort_47 rfl) ?_
      refine gg_st (go_l2i d_X12_readPort_50 rfl) ?_
      refine gg_st (go_bipush d_X12_readPort_51 cb_97 rfl) ?_
      refine gg_st (go_isub d_X12_readPort_53 rfl) ?_
      refine gg_nm (fun _ => [some (.ref (0)), some (.int x3), none]) (fun (x7 : Int32) => [.int x7]) (fun x7 => ?_)
      refine gg_st (go_istore_n 2 d_X12_readPort_54 rfl (by decide) (L' := [some (.ref (0)), some (.int x3), some (.int x7)]) rfl rfl) ?_
      refine gg_st (go_aload_n 0 d_X12_readPort_55 rfl rfl rfl) ?_
      refine gv_V (k_X12_take l w F  σ) cv_X12_245 sM_0 (Nat.le_of_ble_eq_true rfl) rfl rfl (Nat.le_of_ble_eq_true rfl) d_X12_readPort_56 rfl (fun s8 => ?_)
      refine gg_st (go_aload_n 0 d_X12_readPort_59 rfl rfl rfl) ?_
      refine gg_st (go_bipush d_X12_readPort_60 cb_43 rfl) ?_
      refine gv_I (k_X12_isSign l w (43 : Int32) s8) cv_X12_238 sM_0 (Nat.le_of_ble_eq_true rfl) rfl rfl (Nat.le_of_ble_eq_true rfl) d_X12_readPort_62 rfl (fun x9 => ?_)
      refine gg_two (c := (x9 = 0) ∧ ((f_X12_isSign (45 : Int32) s8) = 0)) (pA := 77) (pB := 82) (LL := [some (.ref (0)), some (.int x3), some (.int x7)]) (ss := []) ?_ ?_ (fun hA24 hB25 => ?_)
      · refine gg_st (go_aload_n 0 d_X12_readPort_77 rfl rfl rfl) ?_
        refine gv_IS (k_X12_wrong l w  s8) cv_X12_241 sM_0 (Nat.le_of_ble_eq_true rfl) rfl rfl (Nat.le_of_ble_eq_true rfl) d_X12_readPort_78 rfl (fun x10 => ?_)
        refine gg_gd (fun h11 => ?_)
        exact gg_zret h11 rfl d_X12_readPort_81 rfl
      · refine gg_st (go_aload_n 0 d_X12_readPort_82 rfl rfl rfl) ?_
        refine gg_st (go_getR (j := 39) cf12 sM_0 rfl (by decide) fl_X12_74 d_X12_readPort_83 rfl) ?_
        refine gg_st (go_iconst d_X12_readPort_86 ci_5 rfl) ?_
        refine gg_st (go_aload_n 0 d_X12_readPort_87 rfl rfl rfl) ?_
        refine gg_st (go_getI (j := 36) cf12 sM_0 rfl (by decide) fl_X12_248 d_X12_readPort_88 rfl) ?_
        refine gg_st (go_imul d_X12_readPort_91 rfl) ?_
        refine gg_st (go_iload_n 1 d_X12_readPort_92 rfl rfl rfl) ?_
        refine gg_st (go_iadd d_X12_readPort_93 rfl) ?_
        refine gg_st (go_iload_n 2 d_X12_readPort_94 rfl rfl rfl) ?_
        refine gg_gd (fun h12 => ?_)
        refine gg_st (go_iast sM_19 h12 d_X12_readPort_95 rfl) ?_
        refine gg_som (fun s13 => ?_)
        refine gg_st (go_aload_n 0 d_X12_readPort_96 rfl rfl rfl) ?_
        refine gg_st (go_getR (j := 40) cf12 sM_0 rfl (by decide) fl_X12_77 d_X12_readPort_97 rfl) ?_
        refine gg_st (go_iconst d_X12_readPort_100 ci_5 rfl) ?_
        refine gg_st (go_aload_n 0 d_X12_readPort_101 rfl rfl rfl) ?_
        refine gg_st (go_getI (j := 36) cf12 sM_0 rfl (by decide) fl_X12_248 d_X12_readPort_102 rfl) ?_
        refine gg_st (go_imul d_X12_readPort_105 rfl) ?_
        refine gg_st (go_iload_n 1 d_X12_readPort_106 rfl rfl rfl) ?_
        refine gg_st (go_iadd d_X12_readPort_107 rfl) ?_
        refine gg_st (go_aload_n 0 d_X12_readPort_108 rfl rfl rfl) ?_
        refine gg_st (go_getI (j := 34) cf12 sM_0 rfl (by decide) fl_X12_222 d_X12_readPort_109 rfl) ?_
        refine gg_st (go_bipush d_X12_readPort_112 cb_43 rfl) ?_
        refine gg_bind 122 (fun (t14 : Int32) => [some (.ref (0)), none, none]) (fun (t14 : Int32) => [.int t14, .int (((5 : Int32) * (s13.1 (0) 36)) + x3), .ref (20)]) (fun (t14 : Int32) => s13) ?_ (fun t14 => ?_)
        · refine gg_br (br_icmp_ne (tgt := 121) (pc' := 117) d_X12_readPort_114 (by decide) rfl) (fun h15 => ?_) (fun h15 => ?_)
          · refine gg_st (go_iconst d_X12_readPort_117 ci_1 rfl) ?_
            refine gg_st (go_goto (pc' := 122) d_X12_readPort_118 (by decide)) ?_
            refine gg_st (go_fg [some (.ref (0)), none, none] ⟨rfl, trivial⟩) ?_
            exact gg_end rfl
          · refine gg_st (go_iconst d_X12_readPort_121 ci_0 rfl) ?_
            refine gg_st (go_fg [some (.ref (0)), none, none] ⟨rfl, trivial⟩) ?_
            exact gg_end rfl
        · refine gg_gd (fun h16 => ?_)
          refine gg_gd (fun h17 => ?_)
          refine gg_st (go_zast h17 sM_20 h16 d_X12_readPort_122 rfl) ?_
          refine gg_som (fun s18 => ?_)
          refine gg_st (go_aload_n 0 d_X12_readPort_123 rfl rfl rfl) ?_
          refine gg_st (go_getR (j := 38) cf12 sM_0 rfl (by decide) fl_X12_71 d_X12_readPort_124 rfl) ?_
          refine gg_st (go_aload_n 0 d_X12_readPort_127 rfl rfl rfl) ?_
          refine gg_st (go_getI (j := 36) cf12 sM_0 rfl (by decide) fl_X12_248 d_X12_readPort_128 rfl) ?_
          refine gg_nm (fun _ => [some (.ref (0)), none, none]) (fun (x19 : Int32) => [.int x19, .ref (18)]) (fun x19 => ?_)
          refine gg_st (go_dup2 d_X12_readPort_131 rfl rfl rfl) ?_
          refine gg_gd (fun h20 => ?_)
          refine gg_st (go_iald sM_18 h20 d_X12_readPort_132 rfl) ?_
          refine gg_st (go_iconst d_X12_readPort_133 ci_1 rfl) ?_
          refine gg_st (go_iadd d_X12_readPort_134 rfl) ?_
          refine gg_gd (fun h21 => ?_)
          refine gg_st (go_iast sM_18 h21 d_X12_readPort_135 rfl) ?_
          refine gg_som (fun s22 => ?_)
          refine gg_st (go_aload_n 0 d_X12_readPort_136 rfl rfl rfl) ?_
          refine gv_V (k_X12_take l w F  s22) cv_X12_245 sM_0 (Nat.le_of_ble_eq_true rfl) rfl rfl (Nat.le_of_ble_eq_true rfl) d_X12_readPort_137 rfl (fun s23 => ?_)
          refine gg_st (go_iconst d_X12_readPort_140 ci_1 rfl) ?_
          exact gg_zret (Or.inr rfl) rfl d_X12_readPort_141 rfl
      refine gg_brs (br_if_ne (tgt := 82) (pc' := 68) d_X12_readPort_65 (by decide) rfl) (fun h26 => ?_) (fun h26 => ?_)
      · refine gg_st (go_aload_n 0 d_X12_readPort_68 rfl rfl rfl) ?_
        refine gg_st (go_bipush d_X12_readPort_69 cb_45 rfl) ?_
        refine gg_st (go_vI (k_X12_isSign l w (45 : Int32) s8) cv_X12_238 sM_0 (Nat.le_of_ble_eq_true rfl) rfl rfl (Nat.le_of_ble_eq_true rfl) d_X12_readPort_71 rfl) ?_
        refine gg_brs (br_if_ne (tgt := 82) (pc' := 77) d_X12_readPort_74 (by decide) rfl) (fun h27 => ?_) (fun h27 => ?_)
        · exact gg_eq (if_pos ⟨h26, h27⟩) hA24
        · exact gg_eq (if_neg (fun z => h27 z.2)) hB25
      · exact gg_eq (if_neg (fun z => h26 z.1)) hB25
  · refine gg_st (go_aload_n 0 d_X12_readPort_16 rfl rfl rfl) ?_
    refine gv_IS (k_X12_wrong l w  σ) cv_X12_241 sM_0 (Nat.le_of_ble_eq_true rfl) rfl rfl (Nat.le_of_ble_eq_true rfl) d_X12_readPort_17 rfl (fun x28 => ?_)
    refine gg_gd (fun h29 => ?_)
    exact gg_zret h29 rfl d_X12_readPort_20 rfl
  refine gg_brs (br_icmp_ne (tgt := 16) (pc' := 8) d_X12_readPort_5 (by decide) rfl) (fun h32 => ?_) (fun h32 => ?_)
  · refine gg_st (go_aload_n 0 d_X12_readPort_8 rfl rfl rfl) ?_
    refine gg_st (go_getI (j := 33) cf12 sM_0 rfl (by decide) fl_X12_228 d_X12_readPort_9 rfl) ?_
    refine gg_st (go_iconst d_X12_readPort_12 ci_1 rfl) ?_
    refine gg_brs (br_icmp_eq (tgt := 21) (pc' := 16) d_X12_readPort_13 (by decide) rfl) (fun h33 => ?_) (fun h33 => ?_)
    · exact gg_eq (if_pos ⟨h32, h33⟩) hA30
    · exact gg_eq (if_neg (fun z => h33 z.2)) hB31
  · exact gg_eq (if_neg (fun z => h32 z.1)) hB31
def f_X12_readKind_L102 (F : Nat) (c2 : Int32) (k0 : St → Option (Int32 × St)) : Nat → Int32 → St → Option (Int32 × St)
  | 0, _, _ => none
  | n + 1, v22, g =>
    if v22 = 0 then (
      k0 g)
    else (
      Option.bind (f_X12_take F g) fun s24 =>
      Option.bind (f_X12_readPort F s24) fun x25 =>
      if x25.1 = 0 then (
        some ((0 : Int32), x25.2))
      else (
        Option.bind (some (f_X12_isSign (44 : Int32) x25.2)) fun x27 =>
        f_X12_readKind_L102 F c2 k0 n x27 x25.2))
def f_X12_readKind (F : Nat) (σ : St) : Option (Int32 × St) :=
  Option.bind (f_X12_take F σ) fun s1 =>
  if (s1.1 (0) 29) = (2 : Int32) then (
    Option.bind (f_X12_kindNamed F (s1.2 (0) 32) s1) fun x3 =>
    if 0 ≤ x3 then (
      Option.bind (f_X12_fail (3 : Int32) (s1.1 (0) 30) s1) fun x7 =>
      if x7.1 = 0 ∨ x7.1 = 1 then some (x7.1, x7.2) else none)
    else (
      if (s1.1 (0) 36) = (16 : Int32) then (
        Option.bind (f_X12_fail (4 : Int32) (s1.1 (0) 30) s1) fun x12 =>
        if x12.1 = 0 ∨ x12.1 = 1 then some (x12.1, x12.2) else none)
      else (
        if inb (s1.1 (0) 36) 16 then (
          Option.bind (some (setl s1 (17) (ix (s1.1 (0) 36)) (s1.2 (0) 32))) fun s15 =>
          if inb (s15.1 (0) 36) 16 then (
            Option.bind (some (seti s15 (18) (ix (s15.1 (0) 36)) (0 : Int32))) fun s17 =>
            Option.bind (f_X12_take F s17) fun s18 =>
            Option.bind (f_X12_readPort F s18) fun x19 =>
            if x19.1 = 0 then (
              some ((0 : Int32), x19.2))
            else (
              Option.bind (some (f_X12_isSign (40 : Int32) x19.2)) fun x21 =>
              f_X12_readKind_L102 F x21
                (fun (t28 : St) =>
                  Option.bind (some (fun (t29 : St) =>
                    Option.bind (some (f_X12_isSign (59 : Int32) t29)) fun x31 =>
                    if x31 = 0 then (
                      Option.bind (f_X12_wrong t29) fun x34 =>
                      if x34.1 = 0 ∨ x34.1 = 1 then some (x34.1, x34.2) else none)
                    else (
                      Option.bind (some (seti t29 (0) 36 ((t29.1 (0) 36) + (1 : Int32)))) fun s36 =>
                      some ((1 : Int32), s36)))) fun jp30 =>
                  if x21 = 0 then (
                    jp30 t28)
                  else (
                    Option.bind (f_X12_needs F (41 : Int32) t28) fun x38 =>
                    if x38.1 = 0 then (
                      some ((0 : Int32), x38.2))
                    else (
                      jp30 x38.2))) F x21 x19.2))
          else none)
        else none)))
  else (
    Option.bind (f_X12_wrong s1) fun x40 =>
    if x40.1 = 0 ∨ x40.1 = 1 then some (x40.1, x40.2) else none)
set_option maxRecDepth 20000 in
theorem g_f_X12_readKind_L102 (l : Launch) (w : Wo) (F : Nat) (c2 : Int32) (k0 : St → Option (Int32 × St)) (hk0 : ∀ t, GG l w shM m_X12_readKind 5 129 [some (.ref (0)), none, some (.int c2)] [] t (k0 t) (fun q => .inr ((rIS) q))) : ∀ (n : Nat) (v22 : Int32) (g : St), GG l w shM m_X12_readKind 5 102 [some (.ref (0)), some (.int v22), some (.int c2)] [] g (f_X12_readKind_L102 F c2 k0 n v22 g) (fun q => .inr ((rIS) q)) := by
  intro n
  induction n with
  | zero =>
    intro v22 g
    exact gg_none
  | succ n ih =>
    intro v22 g
    rw [f_X12_readKind_L102]
    refine gg_st (go_iload_n 1 d_X12_readKind_102 rfl rfl rfl) ?_
    refine gg_br (br_if_eq (tgt := 129) (pc' := 106) d_X12_readKind_103 (by decide) rfl) (fun h23 => ?_) (fun h23 => ?_)
    · refine gg_st (go_fg [some (.ref (0)), none, some (.int c2)] ⟨rfl, ⟨rfl, trivial⟩⟩) ?_
      exact hk0 g
    · refine gg_st (go_aload_n 0 d_X12_readKind_106 rfl rfl rfl) ?_
      refine gv_V (k_X12_take l w F  g) cv_X12_245 sM_0 (Nat.le_of_ble_eq_true rfl) rfl rfl (Nat.le_of_ble_eq_true rfl) d_X12_readKind_107 rfl (fun s24 => ?_)
      refine gg_st (go_aload_n 0 d_X12_readKind_110 rfl rfl rfl) ?_
      refine gv_IS (k_X12_readPort l w F  s24) cv_X12_255 sM_0 (Nat.le_of_ble_eq_true rfl) rfl rfl (Nat.le_of_ble_eq_true rfl) d_X12_readKind_111 rfl (fun x25 => ?_)
      refine gg_br (br_if_ne (tgt := 119) (pc' := 117) d_X12_readKind_114 (by decide) rfl) (fun h26 => ?_) (fun h26 => ?_)
      · refine gg_st (go_iconst d_X12_readKind_117 ci_0 rfl) ?_
        exact gg_zret (Or.inl rfl) rfl d_X12_readKind_118 rfl
      · refine gg_st (go_aload_n 0 d_X12_readKind_119 rfl rfl rfl) ?_
        refine gg_st (go_bipush d_X12_readKind_120 cb_44 rfl) ?_
        refine gv_I (k_X12_isSign l w (44 : Int32) x25.2) cv_X12_238 sM_0 (Nat.le_of_ble_eq_true rfl) rfl rfl (Nat.le_of_ble_eq_true rfl) d_X12_readKind_122 rfl (fun x27 => ?_)
        refine gg_st (go_istore_n 1 d_X12_readKind_125 rfl (by decide) (L' := [some (.ref (0)), some (.int x27), some (.int c2)]) rfl rfl) ?_
        refine gg_st (go_goto (pc' := 102) d_X12_readKind_126 (by decide)) ?_
        exact ih x27 x25.2
set_option maxRecDepth 20000 in
theorem k_X12_readKind (l : Launch) (w : Wo) (F : Nat) (σ : St) : K l w shM m_X12_readKind 5 [.ref (0)] σ (f_X12_readKind F σ) (rIS) := by
  refine k_of (L := [some (.ref (0)), none, none]) (plainFor_of_name (by decide +kernel)) 2 rfl (Nat.le_of_ble_eq_true rfl) ?_
  unfold f_X12_readKind
  refine gg_st (go_aload_n 0 d_X12_readKind_0 rfl rfl rfl) ?_
  refine gv_V (k_X12_take l w F  σ) cv_X12_245 sM_0 (Nat.le_of_ble_eq_true rfl) rfl rfl (Nat.le_of_ble_eq_true rfl) d_X12_readKind_1 rfl (fun s1 => ?_)
  refine gg_st (go_aload_n 0 d_X12_readKind_4 rfl rfl rfl) ?_
  refine gg_st (go_getI (j := 29) cf12 sM_0 rfl (by decide) fl_X12_205 d_X12_readKind_5 rfl) ?_
  refine gg_st (go_iconst d_X12_readKind_8 ci_2 rfl) ?_
  refine gg_br (br_icmp_eq (tgt := 17) (pc' := 12) d_X12_readKind_9 (by decide) rfl) (fun h2 => ?_) (fun h2 => ?_)
  · refine gg_st (go_aload_n 0 d_X12_readKind_17 rfl rfl rfl) ?_
    refine gg_st (go_aload_n 0 d_X12_readKind_18 rfl rfl rfl) ?_
    refine gg_st (go_getL (j := 32) cf12 sM_0 rfl (by decide) fl_X12_225 d_X12_readKind_19 rfl) ?_
    refine gv_I (k_X12_kindNamed l w F (s1.2 (0) 32) s1) cv_X12_251 sM_0 (Nat.le_of_ble_eq_true rfl) rfl rfl (Nat.le_of_ble_eq_true rfl) d_X12_readKind_22 rfl (fun x3 => ?_)
    refine gg_br (br_if_lt (tgt := 38) (pc' := 28) d_X12_readKind_25 (by decide) rfl) (fun h6 => ?_) (fun h6 => ?_)
    · refine gg_st (go_aload_n 0 d_X12_readKind_28 rfl rfl rfl) ?_
      refine gg_st (go_iconst d_X12_readKind_29 ci_3 rfl) ?_
      refine gg_st (go_aload_n 0 d_X12_readKind_30 rfl rfl rfl) ?_
      refine gg_st (go_getI (j := 30) cf12 sM_0 rfl (by decide) fl_X12_202 d_X12_readKind_31 rfl) ?_
      refine gv_IS (k_X12_fail l w (3 : Int32) (s1.1 (0) 30) s1) cv_X12_234 sM_0 (Nat.le_of_ble_eq_true rfl) rfl rfl (Nat.le_of_ble_eq_true rfl) d_X12_readKind_34 rfl (fun x7 => ?_)
      refine gg_gd (fun h8 => ?_)
      exact gg_zret h8 rfl d_X12_readKind_37 rfl
    · refine gg_st (go_aload_n 0 d_X12_readKind_38 rfl rfl rfl) ?_
      refine gg_st (go_getI (j := 36) cf12 sM_0 rfl (by decide) fl_X12_248 d_X12_readKind_39 rfl) ?_
      refine gg_st (go_bipush d_X12_readKind_42 cb_16 rfl) ?_
      refine gg_br (br_icmp_ne (tgt := 57) (pc' := 47) d_X12_readKind_44 (by decide) rfl) (fun h11 => ?_) (fun h11 => ?_)
      · refine gg_st (go_aload_n 0 d_X12_readKind_47 rfl rfl rfl) ?_
        refine gg_st (go_iconst d_X12_readKind_48 ci_4 rfl) ?_
        refine gg_st (go_aload_n 0 d_X12_readKind_49 rfl rfl rfl) ?_
        refine gg_st (go_getI (j := 30) cf12 sM_0 rfl (by decide) fl_X12_202 d_X12_readKind_50 rfl) ?_
        refine gv_IS (k_X12_fail l w (4 : Int32) (s1.1 (0) 30) s1) cv_X12_234 sM_0 (Nat.le_of_ble_eq_true rfl) rfl rfl (Nat.le_of_ble_eq_true rfl) d_X12_readKind_53 rfl (fun x12 => ?_)
        refine gg_gd (fun h13 => ?_)
        exact gg_zret h13 rfl d_X12_readKind_56 rfl
      · refine gg_st (go_aload_n 0 d_X12_readKind_57 rfl rfl rfl) ?_
        refine gg_st (go_getR (j := 37) cf12 sM_0 rfl (by decide) fl_X12_68 d_X12_readKind_58 rfl) ?_
        refine gg_st (go_aload_n 0 d_X12_readKind_61 rfl rfl rfl) ?_
        refine gg_st (go_getI (j := 36) cf12 sM_0 rfl (by decide) fl_X12_248 d_X12_readKind_62 rfl) ?_
        refine gg_st (go_aload_n 0 d_X12_readKind_65 rfl rfl rfl) ?_
        refine gg_st (go_getL (j := 32) cf12 sM_0 rfl (by decide) fl_X12_225 d_X12_readKind_66 rfl) ?_
        refine gg_gd (fun h14 => ?_)
        refine gg_st (go_last sM_17 h14 d_X12_readKind_69 rfl) ?_
        refine gg_som (fun s15 => ?_)
        refine gg_st (go_aload_n 0 d_X12_readKind_70 rfl rfl rfl) ?_
        refine gg_st (go_getR (j := 38) cf12 sM_0 rfl (by decide) fl_X12_71 d_X12_readKind_71 rfl) ?_
        refine gg_st (go_aload_n 0 d_X12_readKind_74 rfl rfl rfl) ?_
        refine gg_st (go_getI (j := 36) cf12 sM_0 rfl (by decide) fl_X12_248 d_X12_readKind_75 rfl) ?_
        refine gg_st (go_iconst d_X12_readKind_78 ci_0 rfl) ?_
        refine gg_gd (fun h16 => ?_)
        refine gg_st (go_iast sM_18 h16 d_X12_readKind_79 rfl) ?_
        refine gg_som (fun s17 => ?_)
        refine gg_st (go_aload_n 0 d_X12_readKind_80 rfl rfl rfl) ?_
        refine gv_V (k_X12_take l w F  s17) cv_X12_245 sM_0 (Nat.le_of_ble_eq_true rfl) rfl rfl (Nat.le_of_ble_eq_true rfl) d_X12_readKind_81 rfl (fun s18 => ?_)
        refine gg_st (go_aload_n 0 d_X12_readKind_84 rfl rfl rfl) ?_
        refine gv_IS (k_X12_readPort l w F  s18) cv_X12_255 sM_0 (Nat.le_of_ble_eq_true rfl) rfl rfl (Nat.le_of_ble_eq_true rfl) d_X12_readKind_85 rfl (fun x19 => ?_)
        refine gg_br (br_if_ne (tgt := 93) (pc' := 91) d_X12_readKind_88 (by decide) rfl) (fun h20 => ?_) (fun h20 => ?_)
        · refine gg_st (go_iconst d_X12_readKind_91 ci_0 rfl) ?_
          exact gg_zret (Or.inl rfl) rfl d_X12_readKind_92 rfl
        · refine gg_st (go_aload_n 0 d_X12_readKind_93 rfl rfl rfl) ?_
          refine gg_st (go_bipush d_X12_readKind_94 cb_40 rfl) ?_
          refine gv_I (k_X12_isSign l w (40 : Int32) x19.2) cv_X12_238 sM_0 (Nat.le_of_ble_eq_true rfl) rfl rfl (Nat.le_of_ble_eq_true rfl) d_X12_readKind_96 rfl (fun x21 => ?_)
          refine gg_st (go_istore_n 1 d_X12_readKind_99 rfl (by decide) (L' := [some (.ref (0)), some (.int x21), none]) rfl rfl) ?_
          refine gg_st (go_iload_n 1 d_X12_readKind_100 rfl rfl rfl) ?_
          refine gg_st (go_istore_n 2 d_X12_readKind_101 rfl (by decide) (L' := [some (.ref (0)), some (.int x21), some (.int x21)]) rfl rfl) ?_
          refine g_f_X12_readKind_L102 l w F x21 _ (fun t28 => ?_) F x21 x19.2
          refine gg_st (go_iload_n 2 d_X12_readKind_129 rfl rfl rfl) ?_
          refine gg_jp 144 (fun (t29 : St) => [some (.ref (0)), none, none]) (fun (t29 : St) => []) (fun (t29 : St) => t29) (fun t29 => ?_) (fun jp30 hjp30 => ?_)
          · refine gg_st (go_aload_n 0 d_X12_readKind_144 rfl rfl rfl) ?_
            refine gg_st (go_bipush d_X12_readKind_145 cb_59 rfl) ?_
            refine gv_I (k_X12_isSign l w (59 : Int32) t29) cv_X12_238 sM_0 (Nat.le_of_ble_eq_true rfl) rfl rfl (Nat.le_of_ble_eq_true rfl) d_X12_readKind_147 rfl (fun x31 => ?_)
            refine gg_br (br_if_ne (tgt := 158) (pc' := 153) d_X12_readKind_150 (by decide) rfl) (fun h33 => ?_) (fun h33 => ?_)
            · refine gg_st (go_aload_n 0 d_X12_readKind_153 rfl rfl rfl) ?_
              refine gv_IS (k_X12_wrong l w  t29) cv_X12_241 sM_0 (Nat.le_of_ble_eq_true rfl) rfl rfl (Nat.le_of_ble_eq_true rfl) d_X12_readKind_154 rfl (fun x34 => ?_)
              refine gg_gd (fun h35 => ?_)
              exact gg_zret h35 rfl d_X12_readKind_157 rfl
            · refine gg_st (go_aload_n 0 d_X12_readKind_158 rfl rfl rfl) ?_
              refine gg_st (go_dup d_X12_readKind_159 rfl rfl) ?_
              refine gg_st (go_getI (j := 36) cf12 sM_0 rfl (by decide) fl_X12_248 d_X12_readKind_160 rfl) ?_
              refine gg_st (go_iconst d_X12_readKind_163 ci_1 rfl) ?_
              refine gg_st (go_iadd d_X12_readKind_164 rfl) ?_
              refine gg_st (go_putI (j := 36) cf12 sM_0 rfl (by decide) rfl rfl fl_X12_248 d_X12_readKind_165 rfl) ?_
              refine gg_som (fun s36 => ?_)
              refine gg_st (go_iconst d_X12_readKind_168 ci_1 rfl) ?_
              exact gg_zret (Or.inr rfl) rfl d_X12_readKind_169 rfl
          refine gg_br (br_if_eq (tgt := 144) (pc' := 133) d_X12_readKind_130 (by decide) rfl) (fun h37 => ?_) (fun h37 => ?_)
          · refine gg_st (go_fg [some (.ref (0)), none, none] ⟨rfl, trivial⟩) ?_
            exact hjp30 t28
          · refine gg_st (go_aload_n 0 d_X12_readKind_133 rfl rfl rfl) ?_
            refine gg_st (go_bipush d_X12_readKind_134 cb_41 rfl) ?_
            refine gv_IS (k_X12_needs l w F (41 : Int32) t28) cv_X12_258 sM_0 (Nat.le_of_ble_eq_true rfl) rfl rfl (Nat.le_of_ble_eq_true rfl) d_X12_readKind_136 rfl (fun x38 => ?_)
            refine gg_br (br_if_ne (tgt := 144) (pc' := 142) d_X12_readKind_139 (by decide) rfl) (fun h39 => ?_) (fun h39 => ?_)
            · refine gg_st (go_iconst d_X12_readKind_142 ci_0 rfl) ?_
              exact gg_zret (Or.inl rfl) rfl d_X12_readKind_143 rfl
            · refine gg_st (go_fg [some (.ref (0)), none, none] ⟨rfl, trivial⟩) ?_
              exact hjp30 x38.2
  · refine gg_st (go_aload_n 0 d_X12_readKind_12 rfl rfl rfl) ?_
    refine gv_IS (k_X12_wrong l w  s1) cv_X12_241 sM_0 (Nat.le_of_ble_eq_true rfl) rfl rfl (Nat.le_of_ble_eq_true rfl) d_X12_readKind_13 rfl (fun x40 => ?_)
    refine gg_gd (fun h41 => ?_)
    exact gg_zret h41 rfl d_X12_readKind_16 rfl
def f_X12_useName_L2 (F : Nat) (σ : St) : Nat → Int32 → Option (Int32)
  | 0, _ => none
  | n + 1, v1 =>
    if v1 < (σ.1 (0) 54) then (
      if inb v1 60 then (
        if (lg_cmp (σ.2 (30) (ix v1)) (σ.2 (0) 32)) = 0 then (
          some v1)
        else (
          f_X12_useName_L2 F σ n (v1 + (1 : Int32))))
      else none)
    else (
      some v1)
def f_X12_useName (F : Nat) (σ : St) : Option (Int32 × St) :=
  Option.bind (f_X12_useName_L2 F σ F (0 : Int32)) fun t6 =>
  if t6 = (60 : Int32) then (
    some ((-1 : Int32), σ))
  else (
    Option.bind (
      if t6 = (σ.1 (0) 54) then (
        if inb t6 60 then (
          Option.bind (some (setl σ (30) (ix t6) (σ.2 (0) 32))) fun s15 =>
          if inb t6 60 then (
            Option.bind (some (seti s15 (31) (ix t6) (0 : Int32))) fun s17 =>
            Option.bind (some (seti s17 (0) 54 ((s17.1 (0) 54) + (1 : Int32)))) fun s18 =>
            some s18)
          else none)
        else none)
      else (
        some σ)) fun t10 =>
    if inb t6 60 then (
      Option.bind (
        if (t10.1 (31) (ix t6)) < (2 : Int32) then (
          if inb t6 60 then (
            some (((1000 : Int32) + ((2 : Int32) * t6)) + (t10.1 (31) (ix t6))))
          else none)
        else (
          some (1210 : Int32))) fun t20 =>
      if inb t6 60 then (
        if inb t6 60 then (
          Option.bind (some (seti t10 (31) (ix t6) ((t10.1 (31) (ix t6)) + (1 : Int32)))) fun s26 =>
          some (t20, s26))
        else none)
      else none)
    else none)
set_option maxRecDepth 20000 in
theorem g_f_X12_useName_L2 (l : Launch) (w : Wo) (F : Nat) (σ : St) : ∀ (n : Nat) (v1 : Int32), GG l w shM m_X12_useName 1 2 [some (.ref (0)), some (.int v1), none] [] σ (f_X12_useName_L2 F σ n v1) (fun (t : Int32) => .inl (30, [some (.ref (0)), some (.int t), none], [], σ)) := by
  intro n
  induction n with
  | zero =>
    intro v1
    exact gg_none
  | succ n ih =>
    intro v1
    rw [f_X12_useName_L2]
    refine gg_st (go_iload_n 1 d_X12_useName_2 rfl rfl rfl) ?_
    refine gg_st (go_aload_n 0 d_X12_useName_3 rfl rfl rfl) ?_
    refine gg_st (go_getI (j := 54) cf12 sM_0 rfl (by decide) fl_X12_267 d_X12_useName_4 rfl) ?_
    refine gg_br (br_icmp_ge (tgt := 30) (pc' := 10) d_X12_useName_7 (by decide) rfl) (fun h3 => ?_) (fun h3 => ?_)
    · refine gg_st (go_aload_n 0 d_X12_useName_10 rfl rfl rfl) ?_
      refine gg_st (go_getR (j := 55) cf12 sM_0 rfl (by decide) fl_X12_107 d_X12_useName_11 rfl) ?_
      refine gg_st (go_iload_n 1 d_X12_useName_14 rfl rfl rfl) ?_
      refine gg_gd (fun h4 => ?_)
      refine gg_st (go_lald sM_30 h4 d_X12_useName_15 rfl) ?_
      refine gg_st (go_aload_n 0 d_X12_useName_16 rfl rfl rfl) ?_
      refine gg_st (go_getL (j := 32) cf12 sM_0 rfl (by decide) fl_X12_225 d_X12_useName_17 rfl) ?_
      refine gg_st (go_lcmp d_X12_useName_20 rfl) ?_
      refine gg_br (br_if_eq (tgt := 30) (pc' := 24) d_X12_useName_21 (by decide) rfl) (fun h5 => ?_) (fun h5 => ?_)
      · exact gg_end rfl
      · refine gg_st (go_iinc 1 d_X12_useName_24 rfl (v := v1 + (1 : Int32)) (by rw [ci_1]) (by decide) (L' := [some (.ref (0)), some (.int (v1 + (1 : Int32))), none]) rfl rfl) ?_
        refine gg_st (go_goto (pc' := 2) d_X12_useName_27 (by decide)) ?_
        exact ih (v1 + (1 : Int32))
    · exact gg_end rfl
set_option maxRecDepth 20000 in
theorem k_X12_useName (l : Launch) (w : Wo) (F : Nat) (σ : St) : K l w shM m_X12_useName 1 [.ref (0)] σ (f_X12_useName F σ) (rIS) := by
  refine k_of (L := [some (.ref (0)), none, none]) (plainFor_of_name (by decide +kernel)) 2 rfl (Nat.le_of_ble_eq_true rfl) ?_
  unfold f_X12_useName
  refine gg_st (go_iconst d_X12_useName_0 ci_0 rfl) ?_
  refine gg_st (go_istore_n 1 d_X12_useName_1 rfl (by decide) (L' := [some (.ref (0)), some (.int (0 : Int32)), none]) rfl rfl) ?_
  refine gg_bind 30 (fun (t6 : Int32) => [some (.ref (0)), some (.int t6), none]) (fun (t6 : Int32) => []) (fun (t6 : Int32) => σ) (g_f_X12_useName_L2 l w F σ F (0 : Int32)) (fun t6 => ?_)
  refine gg_st (go_iload_n 1 d_X12_useName_30 rfl rfl rfl) ?_
  refine gg_st (go_bipush d_X12_useName_31 cb_60 rfl) ?_
  refine gg_br (br_icmp_ne (tgt := 38) (pc' := 36) d_X12_useName_33 (by decide) rfl) (fun h9 => ?_) (fun h9 => ?_)
  · refine gg_st (go_iconst d_X12_useName_36 ci_m1 rfl) ?_
    exact gg_iret rfl d_X12_useName_37 rfl
  · refine gg_st (go_iload_n 1 d_X12_useName_38 rfl rfl rfl) ?_
    refine gg_st (go_aload_n 0 d_X12_useName_39 rfl rfl rfl) ?_
    refine gg_st (go_getI (j := 54) cf12 sM_0 rfl (by decide) fl_X12_267 d_X12_useName_40 rfl) ?_
    refine gg_bind 73 (fun (t10 : St) => [some (.ref (0)), some (.int t6), none]) (fun (t10 : St) => []) (fun (t10 : St) => t10) ?_ (fun t10 => ?_)
    · refine gg_br (br_icmp_ne (tgt := 73) (pc' := 46) d_X12_useName_43 (by decide) rfl) (fun h13 => ?_) (fun h13 => ?_)
      · refine gg_st (go_aload_n 0 d_X12_useName_46 rfl rfl rfl) ?_
        refine gg_st (go_getR (j := 55) cf12 sM_0 rfl (by decide) fl_X12_107 d_X12_useName_47 rfl) ?_
        refine gg_st (go_iload_n 1 d_X12_useName_50 rfl rfl rfl) ?_
        refine gg_st (go_aload_n 0 d_X12_useName_51 rfl rfl rfl) ?_
        refine gg_st (go_getL (j := 32) cf12 sM_0 rfl (by decide) fl_X12_225 d_X12_useName_52 rfl) ?_
        refine gg_gd (fun h14 => ?_)
        refine gg_st (go_last sM_30 h14 d_X12_useName_55 rfl) ?_
        refine gg_som (fun s15 => ?_)
        refine gg_st (go_aload_n 0 d_X12_useName_56 rfl rfl rfl) ?_
        refine gg_st (go_getR (j := 56) cf12 sM_0 rfl (by decide) fl_X12_110 d_X12_useName_57 rfl) ?_
        refine gg_st (go_iload_n 1 d_X12_useName_60 rfl rfl rfl) ?_
        refine gg_st (go_iconst d_X12_useName_61 ci_0 rfl) ?_
        refine gg_gd (fun h16 => ?_)
        refine gg_st (go_iast sM_31 h16 d_X12_useName_62 rfl) ?_
        refine gg_som (fun s17 => ?_)
        refine gg_st (go_aload_n 0 d_X12_useName_63 rfl rfl rfl) ?_
        refine gg_st (go_dup d_X12_useName_64 rfl rfl) ?_
        refine gg_st (go_getI (j := 54) cf12 sM_0 rfl (by decide) fl_X12_267 d_X12_useName_65 rfl) ?_
        refine gg_st (go_iconst d_X12_useName_68 ci_1 rfl) ?_
        refine gg_st (go_iadd d_X12_useName_69 rfl) ?_
        refine gg_st (go_putI (j := 54) cf12 sM_0 rfl (by decide) rfl rfl fl_X12_267 d_X12_useName_70 rfl) ?_
        refine gg_som (fun s18 => ?_)
        exact gg_end rfl
      · exact gg_end rfl
    · refine gg_st (go_aload_n 0 d_X12_useName_73 rfl rfl rfl) ?_
      refine gg_st (go_getR (j := 56) cf12 sM_0 rfl (by decide) fl_X12_110 d_X12_useName_74 rfl) ?_
      refine gg_st (go_iload_n 1 d_X12_useName_77 rfl rfl rfl) ?_
      refine gg_gd (fun h19 => ?_)
      refine gg_st (go_iald sM_31 h19 d_X12_useName_78 rfl) ?_
      refine gg_st (go_iconst d_X12_useName_79 ci_2 rfl) ?_
      refine gg_bind 103 (fun (t20 : Int32) => [some (.ref (0)), some (.int t6), none]) (fun (t20 : Int32) => [.int t20]) (fun (t20 : Int32) => t10) ?_ (fun t20 => ?_)
      · refine gg_br (br_icmp_ge (tgt := 100) (pc' := 83) d_X12_useName_80 (by decide) rfl) (fun h22 => ?_) (fun h22 => ?_)
        · refine gg_st (go_sipush d_X12_useName_83 cs_1000 rfl) ?_
          refine gg_st (go_iconst d_X12_useName_86 ci_2 rfl) ?_
          refine gg_st (go_iload_n 1 d_X12_useName_87 rfl rfl rfl) ?_
          refine gg_st (go_imul d_X12_useName_88 rfl) ?_
          refine gg_st (go_iadd d_X12_useName_89 rfl) ?_
          refine gg_st (go_aload_n 0 d_X12_useName_90 rfl rfl rfl) ?_
          refine gg_st (go_getR (j := 56) cf12 sM_0 rfl (by decide) fl_X12_110 d_X12_useName_91 rfl) ?_
          refine gg_st (go_iload_n 1 d_X12_useName_94 rfl rfl rfl) ?_
          refine gg_gd (fun h23 => ?_)
          refine gg_st (go_iald sM_31 h23 d_X12_useName_95 rfl) ?_
          refine gg_st (go_iadd d_X12_useName_96 rfl) ?_
          refine gg_st (go_goto (pc' := 103) d_X12_useName_97 (by decide)) ?_
          exact gg_end rfl
        · refine gg_st (go_sipush d_X12_useName_100 cs_1210 rfl) ?_
          exact gg_end rfl
      · refine gg_st (go_istore_n 2 d_X12_useName_103 rfl (by decide) (L' := [some (.ref (0)), some (.int t6), some (.int t20)]) rfl rfl) ?_
        refine gg_st (go_aload_n 0 d_X12_useName_104 rfl rfl rfl) ?_
        refine gg_st (go_getR (j := 56) cf12 sM_0 rfl (by decide) fl_X12_110 d_X12_useName_105 rfl) ?_
        refine gg_st (go_iload_n 1 d_X12_useName_108 rfl rfl rfl) ?_
        refine gg_st (go_dup2 d_X12_useName_109 rfl rfl rfl) ?_
        refine gg_gd (fun h24 => ?_)
        refine gg_st (go_iald sM_31 h24 d_X12_useName_110 rfl) ?_
        refine gg_st (go_iconst d_X12_useName_111 ci_1 rfl) ?_
        refine gg_st (go_iadd d_X12_useName_112 rfl) ?_
        refine gg_gd (fun h25 => ?_)
        refine gg_st (go_iast sM_31 h25 d_X12_useName_113 rfl) ?_
        refine gg_som (fun s26 => ?_)
        refine gg_st (go_iload_n 2 d_X12_useName_114 rfl rfl rfl) ?_
        exact gg_iret rfl d_X12_useName_115 rfl
def f_X12_readTerm_L236 (F : Nat) (k0 : Int32 × St → Option (Int32 × St)) (k1 : Int32 × St → Option (Int32 × St)) (k2 : St → Option (Int32 × St)) : Nat → Int32 → Int32 → St → Option (Int32 × St)
  | 0, _, _, _ => none
  | n + 1, v4, v5, g =>
    if v5 = 0 then (
      if v4 = 0 then (
        some ((1 : Int32), g))
      else (
        if inb (v4 - (1 : Int32)) 12 then (
          Option.bind (some (g.1 (33) (ix (v4 - (1 : Int32))))) fun x11 =>
          if inb (v4 - (1 : Int32)) 12 then (
            Option.bind (some (g.1 (34) (ix (v4 - (1 : Int32))))) fun x13 =>
            if inb x11 200 then (
              if inb (g.1 (27) (ix x11)) 16 then (
                Option.bind (some (g.1 (18) (ix (g.1 (27) (ix x11))))) fun x16 =>
                Option.bind (
                  if x13 < x16 then (
                    Option.bind (f_X12_join (((5 : Int32) * x11) + x13) (g.1 (0) 60) g) fun s19 =>
                    some s19)
                  else (
                    some g)) fun t17 =>
                Option.bind (some (v4 - (1 : Int32))) fun x20 =>
                if inb x20 12 then (
                  if inb x20 12 then (
                    Option.bind (some (seti t17 (34) (ix x20) ((t17.1 (34) (ix x20)) + (1 : Int32)))) fun s23 =>
                    Option.bind (some (f_X12_isSign (44 : Int32) s23)) fun x24 =>
                    Option.bind (some (fun (t26 : Int32 × Int32 × St) =>
                      Option.bind (f_X12_take F t26.2.2) fun s28 =>
                      f_X12_readTerm_L236 F k0 k1 k2 n t26.1 t26.2.1 s28)) fun jp27 =>
                    if x24 = 0 then (
                      Option.bind (some (f_X12_isSign (41 : Int32) s23)) fun x30 =>
                      if x30 = 0 then (
                        k2 s23)
                      else (
                        if inb (v4 - (1 : Int32)) 12 then (
                          if (s23.1 (34) (ix (v4 - (1 : Int32)))) = x16 then (
                            Option.bind (some (seti s23 (0) 60 ((5 : Int32) * x11))) fun s36 =>
                            Option.bind (some (v4 + (-1 : Int32))) fun x37 =>
                            jp27 (x37, v5, s36))
                          else (
                            k1 (x11, s23)))
                        else none))
                    else (
                      jp27 (v4, (1 : Int32), s23)))
                  else none)
                else none)
              else none)
            else none)
          else none)
        else none))
    else (
      k0 (v4, g))
def f_X12_readTerm_L2 (F : Nat) (k0 : St → Option (Int32 × St)) (k1 : St → Option (Int32 × St)) (k2 : St → Option (Int32 × St)) (k3 : St → Option (Int32 × St)) (k4 : Int32 × St → Option (Int32 × St)) (k5 : St → Option (Int32 × St)) (k6 : St → Option (Int32 × St)) : Nat → Int32 → St → Option (Int32 × St)
  | 0, _, _ => none
  | n + 1, v1, g =>
    Option.bind (some (fun (t2 : Int32 × Int32 × St) =>
      f_X12_readTerm_L236 F
        (fun (t38 : Int32 × St) =>
          f_X12_readTerm_L2 F k0 k1 k2 k3 k4 k5 k6 n t38.1 t38.2)
        (fun (t39 : Int32 × St) =>
          k4 (t39.1, t39.2))
        (fun (t40 : St) =>
          k5 t40) F t2.1 t2.2.1 t2.2.2)) fun jp3 =>
    if (g.1 (0) 29) = (1 : Int32) then (
      Option.bind (
        if v1 = (12 : Int32) then (
          some ((-1 : Int32), g))
        else (
          Option.bind (f_X12_useName F g) fun x44 =>
          some (x44.1, x44.2))) fun t42 =>
      Option.bind (some (seti t42.2 (0) 60 t42.1)) fun s45 =>
      if (s45.1 (0) 60) < 0 then (
        k6 s45)
      else (
        Option.bind (f_X12_take F s45) fun s47 =>
        jp3 (v1, (0 : Int32), s47)))
    else (
      if (g.1 (0) 29) = (2 : Int32) then (
        Option.bind (f_X12_kindNamed F (g.2 (0) 32) g) fun x49 =>
        if x49 < 0 then (
          k3 g)
        else (
          if (v1 = (12 : Int32)) ∨ ((g.1 (0) 49) = (g.1 (0) 50)) then (
            k2 g)
          else (
            if inb (g.1 (0) 49) 200 then (
              Option.bind (some (seti g (27) (ix (g.1 (0) 49)) x49)) fun s56 =>
              if inb (s56.1 (0) 49) 200 then (
                Option.bind (some (seti s56 (28) (ix (s56.1 (0) 49)) (s56.1 (0) 30))) fun s58 =>
                Option.bind (some (seti s58 (0) 60 ((5 : Int32) * (s58.1 (0) 49)))) fun s59 =>
                Option.bind (some (seti s59 (0) 49 ((s59.1 (0) 49) + (1 : Int32)))) fun s60 =>
                Option.bind (f_X12_take F s60) fun s61 =>
                Option.bind (some (f_X12_isSign (40 : Int32) s61)) fun x62 =>
                Option.bind (some (fun (t66 : Int32 × St) =>
                  jp3 (t66.1, x62, t66.2))) fun jp67 =>
                if x62 = 0 then (
                  if inb x49 16 then (
                    if (s61.1 (18) (ix x49)) = (1 : Int32) then (
                      jp67 (v1, s61))
                    else (
                      k1 s61))
                  else none)
                else (
                  if inb v1 12 then (
                    Option.bind (some (seti s61 (33) (ix v1) ((s61.1 (0) 49) - (1 : Int32)))) fun s72 =>
                    if inb v1 12 then (
                      Option.bind (some (seti s72 (34) (ix v1) (1 : Int32))) fun s74 =>
                      Option.bind (some (v1 + (1 : Int32))) fun x75 =>
                      Option.bind (f_X12_take F s74) fun s76 =>
                      jp67 (x75, s76))
                    else none)
                  else none))
              else none)
            else none)))
      else (
        k0 g))
def f_X12_readTerm (F : Nat) (σ : St) : Option (Int32 × St) :=
  f_X12_readTerm_L2 F
    (fun (t81 : St) =>
      Option.bind (f_X12_wrong t81) fun x82 =>
      if x82.1 = 0 ∨ x82.1 = 1 then some (x82.1, x82.2) else none)
    (fun (t84 : St) =>
      if inb ((t84.1 (0) 49) - (1 : Int32)) 200 then (
        Option.bind (f_X12_fail (5 : Int32) (t84.1 (28) (ix ((t84.1 (0) 49) - (1 : Int32)))) t84) fun x86 =>
        if x86.1 = 0 ∨ x86.1 = 1 then some (x86.1, x86.2) else none)
      else none)
    (fun (t88 : St) =>
      Option.bind (f_X12_fail (4 : Int32) (t88.1 (0) 30) t88) fun x89 =>
      if x89.1 = 0 ∨ x89.1 = 1 then some (x89.1, x89.2) else none)
    (fun (t91 : St) =>
      Option.bind (f_X12_fail (3 : Int32) (t91.1 (0) 30) t91) fun x92 =>
      if x92.1 = 0 ∨ x92.1 = 1 then some (x92.1, x92.2) else none)
    (fun (t94 : Int32 × St) =>
      if inb t94.1 200 then (
        Option.bind (f_X12_fail (5 : Int32) (t94.2.1 (28) (ix t94.1)) t94.2) fun x96 =>
        if x96.1 = 0 ∨ x96.1 = 1 then some (x96.1, x96.2) else none)
      else none)
    (fun (t98 : St) =>
      Option.bind (f_X12_wrong t98) fun x99 =>
      if x99.1 = 0 ∨ x99.1 = 1 then some (x99.1, x99.2) else none)
    (fun (t101 : St) =>
      Option.bind (f_X12_fail (4 : Int32) (t101.1 (0) 30) t101) fun x102 =>
      if x102.1 = 0 ∨ x102.1 = 1 then some (x102.1, x102.2) else none) F (0 : Int32) σ
set_option maxRecDepth 20000 in
theorem g_f_X12_readTerm_L236 (l : Launch) (w : Wo) (F : Nat) (k0 : Int32 × St → Option (Int32 × St)) (k1 : Int32 × St → Option (Int32 × St)) (k2 : St → Option (Int32 × St)) (hk0 : ∀ t, GG l w shM m_X12_readTerm 4 386 [some (.ref (0)), some (.int t.1), none, none, none, none, none] [] t.2 (k0 t) (fun q => .inr ((rIS) q))) (hk1 : ∀ t, GG l w shM m_X12_readTerm 4 355 [some (.ref (0)), none, none, none, some (.int t.1), none, none] [] t.2 (k1 t) (fun q => .inr ((rIS) q))) (hk2 : ∀ t, GG l w shM m_X12_readTerm 4 337 [some (.ref (0)), none, none, none, none, none, none] [] t (k2 t) (fun q => .inr ((rIS) q))) : ∀ (n : Nat) (v4 : Int32) (v5 : Int32) (g : St), GG l w shM m_X12_readTerm 4 236 [some (.ref (0)), some (.int v4), none, some (.int v5), none, none, none] [] g (f_X12_readTerm_L236 F k0 k1 k2 n v4 v5 g) (fun q => .inr ((rIS) q)) := by
  intro n
  induction n with
  | zero =>
    intro v4 v5 g
    exact gg_none
  | succ n ih =>
    intro v4 v5 g
    rw [f_X12_readTerm_L236]
    refine gg_st (go_iload_n 3 d_X12_readTerm_236 rfl rfl rfl) ?_
    refine gg_br (br_if_ne (tgt := 386) (pc' := 240) d_X12_readTerm_237 (by decide) rfl) (fun h7 => ?_) (fun h7 => ?_)
    · refine gg_st (go_iload_n 1 d_X12_readTerm_240 rfl rfl rfl) ?_
      refine gg_br (br_if_ne (tgt := 246) (pc' := 244) d_X12_readTerm_241 (by decide) rfl) (fun h9 => ?_) (fun h9 => ?_)
      · refine gg_st (go_iconst d_X12_readTerm_244 ci_1 rfl) ?_
        exact gg_zret (Or.inr rfl) rfl d_X12_readTerm_245 rfl
      · refine gg_st (go_aload_n 0 d_X12_readTerm_246 rfl rfl rfl) ?_
        refine gg_st (go_getR (j := 58) cf12 sM_0 rfl (by decide) fl_X12_116 d_X12_readTerm_247 rfl) ?_
        refine gg_st (go_iload_n 1 d_X12_readTerm_250 rfl rfl rfl) ?_
        refine gg_st (go_iconst d_X12_readTerm_251 ci_1 rfl) ?_
        refine gg_st (go_isub d_X12_readTerm_252 rfl) ?_
        refine gg_gd (fun h10 => ?_)
        refine gg_st (go_iald sM_33 h10 d_X12_readTerm_253 rfl) ?_
        refine gg_nm (fun _ => [some (.ref (0)), some (.int v4), none, some (.int v5), none, none, none]) (fun (x11 : Int32) => [.int x11]) (fun x11 => ?_)
        refine gg_st (go_istore 4 d_X12_readTerm_254 (by decide) (L' := [some (.ref (0)), some (.int v4), none, some (.int v5), some (.int x11), none, none]) rfl rfl) ?_
        refine gg_st (go_aload_n 0 d_X12_readTerm_256 rfl rfl rfl) ?_
        refine gg_st (go_getR (j := 59) cf12 sM_0 rfl (by decide) fl_X12_119 d_X12_readTerm_257 rfl) ?_
        refine gg_st (go_iload_n 1 d_X12_readTerm_260 rfl rfl rfl) ?_
        refine gg_st (go_iconst d_X12_readTerm_261 ci_1 rfl) ?_
        refine gg_st (go_isub d_X12_readTerm_262 rfl) ?_
        refine gg_gd (fun h12 => ?_)
        refine gg_st (go_iald sM_34 h12 d_X12_readTerm_263 rfl) ?_
        refine gg_nm (fun _ => [some (.ref (0)), some (.int v4), none, some (.int v5), some (.int x11), none, none]) (fun (x13 : Int32) => [.int x13]) (fun x13 => ?_)
        refine gg_st (go_istore 5 d_X12_readTerm_264 (by decide) (L' := [some (.ref (0)), some (.int v4), none, some (.int v5), some (.int x11), some (.int x13), none]) rfl rfl) ?_
        refine gg_st (go_aload_n 0 d_X12_readTerm_266 rfl rfl rfl) ?_
        refine gg_st (go_getR (j := 38) cf12 sM_0 rfl (by decide) fl_X12_71 d_X12_readTerm_267 rfl) ?_
        refine gg_st (go_aload_n 0 d_X12_readTerm_270 rfl rfl rfl) ?_
        refine gg_st (go_getR (j := 51) cf12 sM_0 rfl (by decide) fl_X12_98 d_X12_readTerm_271 rfl) ?_
        refine gg_st (go_iload 4 d_X12_readTerm_274 rfl rfl) ?_
        refine gg_gd (fun h14 => ?_)
        refine gg_st (go_iald sM_27 h14 d_X12_readTerm_276 rfl) ?_
        refine gg_gd (fun h15 => ?_)
        refine gg_st (go_iald sM_18 h15 d_X12_readTerm_277 rfl) ?_
        refine gg_nm (fun _ => [some (.ref (0)), some (.int v4), none, some (.int v5), some (.int x11), some (.int x13), none]) (fun (x16 : Int32) => [.int x16]) (fun x16 => ?_)
        refine gg_st (go_istore 6 d_X12_readTerm_278 (by decide) (L' := [some (.ref (0)), some (.int v4), none, some (.int v5), some (.int x11), some (.int x13), some (.int x16)]) rfl rfl) ?_
        refine gg_st (go_iload 5 d_X12_readTerm_280 rfl rfl) ?_
        refine gg_st (go_iload 6 d_X12_readTerm_282 rfl rfl) ?_
        refine gg_bind 302 (fun (t17 : St) => [some (.ref (0)), some (.int v4), none, some (.int v5), some (.int x11), none, some (.int x16)]) (fun (t17 : St) => []) (fun (t17 : St) => t17) ?_ (fun t17 => ?_)
        · refine gg_br (br_icmp_ge (tgt := 302) (pc' := 287) d_X12_readTerm_284 (by decide) rfl) (fun h18 => ?_) (fun h18 => ?_)
          · refine gg_st (go_aload_n 0 d_X12_readTerm_287 rfl rfl rfl) ?_
            refine gg_st (go_iconst d_X12_readTerm_288 ci_5 rfl) ?_
            refine gg_st (go_iload 4 d_X12_readTerm_289 rfl rfl) ?_
            refine gg_st (go_imul d_X12_readTerm_291 rfl) ?_
            refine gg_st (go_iload 5 d_X12_readTerm_292 rfl rfl) ?_
            refine gg_st (go_iadd d_X12_readTerm_294 rfl) ?_
            refine gg_st (go_aload_n 0 d_X12_readTerm_295 rfl rfl rfl) ?_
            refine gg_st (go_getI (j := 60) cf12 sM_0 rfl (by decide) fl_X12_274 d_X12_readTerm_296 rfl) ?_
            refine gv_V (k_X12_join l w (((5 : Int32) * x11) + x13) (g.1 (0) 60) g) cv_X12_277 sM_0 (Nat.le_of_ble_eq_true rfl) rfl rfl (Nat.le_of_ble_eq_true rfl) d_X12_readTerm_299 rfl (fun s19 => ?_)
            refine gg_st (go_fg [some (.ref (0)), some (.int v4), none, some (.int v5), some (.int x11), none, some (.int x16)] ⟨rfl, ⟨rfl, ⟨rfl, ⟨rfl, ⟨rfl, trivial⟩⟩⟩⟩⟩) ?_
            exact gg_end rfl
          · refine gg_st (go_fg [some (.ref (0)), some (.int v4), none, some (.int v5), some (.int x11), none, some (.int x16)] ⟨rfl, ⟨rfl, ⟨rfl, ⟨rfl, ⟨rfl, trivial⟩⟩⟩⟩⟩) ?_
            exact gg_end rfl
        · refine gg_st (go_aload_n 0 d_X12_readTerm_302 rfl rfl rfl) ?_
          refine gg_st (go_getR (j := 59) cf12 sM_0 rfl (by decide) fl_X12_119 d_X12_readTerm_303 rfl) ?_
          refine gg_st (go_iload_n 1 d_X12_readTerm_306 rfl rfl rfl) ?_
          refine gg_st (go_iconst d_X12_readTerm_307 ci_1 rfl) ?_
          refine gg_st (go_isub d_X12_readTerm_308 rfl) ?_
          refine gg_nm (fun _ => [some (.ref (0)), some (.int v4), none, some (.int v5), some (.int x11), none, some (.int x16)]) (fun (x20 : Int32) => [.int x20, .ref (34)]) (fun x20 => ?_)
          refine gg_st (go_dup2 d_X12_readTerm_309 rfl rfl rfl) ?_
          refine gg_gd (fun h21 => ?_)
          refine gg_st (go_iald sM_34 h21 d_X12_readTerm_310 rfl) ?_
          refine gg_st (go_iconst d_X12_readTerm_311 ci_1 rfl) ?_
          refine gg_st (go_iadd d_X12_readTerm_312 rfl) ?_
          refine gg_gd (fun h22 => ?_)
          refine gg_st (go_iast sM_34 h22 d_X12_readTerm_313 rfl) ?_
          refine gg_som (fun s23 => ?_)
          refine gg_st (go_aload_n 0 d_X12_readTerm_314 rfl rfl rfl) ?_
          refine gg_st (go_bipush d_X12_readTerm_315 cb_44 rfl) ?_
          refine gv_I (k_X12_isSign l w (44 : Int32) s23) cv_X12_238 sM_0 (Nat.le_of_ble_eq_true rfl) rfl rfl (Nat.le_of_ble_eq_true rfl) d_X12_readTerm_317 rfl (fun x24 => ?_)
          refine gg_jp 379 (fun (t26 : Int32 × Int32 × St) => [some (.ref (0)), some (.int t26.1), none, some (.int t26.2.1), none, none, none]) (fun (t26 : Int32 × Int32 × St) => []) (fun (t26 : Int32 × Int32 × St) => t26.2.2) (fun t26 => ?_) (fun jp27 hjp27 => ?_)
          · refine gg_st (go_aload_n 0 d_X12_readTerm_379 rfl rfl rfl) ?_
            refine gv_V (k_X12_take l w F  t26.2.2) cv_X12_245 sM_0 (Nat.le_of_ble_eq_true rfl) rfl rfl (Nat.le_of_ble_eq_true rfl) d_X12_readTerm_380 rfl (fun s28 => ?_)
            refine gg_st (go_goto (pc' := 236) d_X12_readTerm_383 (by decide)) ?_
            exact ih t26.1 t26.2.1 s28
          refine gg_br (br_if_eq (tgt := 328) (pc' := 323) d_X12_readTerm_320 (by decide) rfl) (fun h29 => ?_) (fun h29 => ?_)
          · refine gg_st (go_aload_n 0 d_X12_readTerm_328 rfl rfl rfl) ?_
            refine gg_st (go_bipush d_X12_readTerm_329 cb_41 rfl) ?_
            refine gv_I (k_X12_isSign l w (41 : Int32) s23) cv_X12_238 sM_0 (Nat.le_of_ble_eq_true rfl) rfl rfl (Nat.le_of_ble_eq_true rfl) d_X12_readTerm_331 rfl (fun x30 => ?_)
            refine gg_br (br_if_ne (tgt := 342) (pc' := 337) d_X12_readTerm_334 (by decide) rfl) (fun h32 => ?_) (fun h32 => ?_)
            · refine gg_st (go_fg [some (.ref (0)), none, none, none, none, none, none] ⟨rfl, trivial⟩) ?_
              exact hk2 s23
            · refine gg_st (go_aload_n 0 d_X12_readTerm_342 rfl rfl rfl) ?_
              refine gg_st (go_getR (j := 59) cf12 sM_0 rfl (by decide) fl_X12_119 d_X12_readTerm_343 rfl) ?_
              refine gg_st (go_iload_n 1 d_X12_readTerm_346 rfl rfl rfl) ?_
              refine gg_st (go_iconst d_X12_readTerm_347 ci_1 rfl) ?_
              refine gg_st (go_isub d_X12_readTerm_348 rfl) ?_
              refine gg_gd (fun h33 => ?_)
              refine gg_st (go_iald sM_34 h33 d_X12_readTerm_349 rfl) ?_
              refine gg_st (go_iload 6 d_X12_readTerm_350 rfl rfl) ?_
              refine gg_br (br_icmp_eq (tgt := 368) (pc' := 355) d_X12_readTerm_352 (by decide) rfl) (fun h35 => ?_) (fun h35 => ?_)
              · refine gg_st (go_aload_n 0 d_X12_readTerm_368 rfl rfl rfl) ?_
                refine gg_st (go_iconst d_X12_readTerm_369 ci_5 rfl) ?_
                refine gg_st (go_iload 4 d_X12_readTerm_370 rfl rfl) ?_
                refine gg_st (go_imul d_X12_readTerm_372 rfl) ?_
                refine gg_st (go_putI (j := 60) cf12 sM_0 rfl (by decide) rfl rfl fl_X12_274 d_X12_readTerm_373 rfl) ?_
                refine gg_som (fun s36 => ?_)
                refine gg_st (go_iinc 1 d_X12_readTerm_376 rfl (v := v4 + (-1 : Int32)) (by rw [ci_m1]) (by decide) (L' := [some (.ref (0)), some (.int (v4 + (-1 : Int32))), none, some (.int v5), some (.int x11), none, some (.int x16)]) rfl rfl) ?_
                refine gg_nm (fun (x37 : Int32) => [some (.ref (0)), some (.int x37), none, some (.int v5), some (.int x11), none, some (.int x16)]) (fun _ => []) (fun x37 => ?_)
                refine gg_st (go_fg [some (.ref (0)), some (.int x37), none, some (.int v5), none, none, none] ⟨rfl, ⟨rfl, ⟨rfl, trivial⟩⟩⟩) ?_
                exact hjp27 (x37, v5, s36)
              · refine gg_st (go_fg [some (.ref (0)), none, none, none, some (.int x11), none, none] ⟨rfl, ⟨rfl, trivial⟩⟩) ?_
                exact hk1 (x11, s23)
          · refine gg_st (go_iconst d_X12_readTerm_323 ci_1 rfl) ?_
            refine gg_st (go_istore_n 3 d_X12_readTerm_324 rfl (by decide) (L' := [some (.ref (0)), some (.int v4), none, some (.int (1 : Int32)), some (.int x11), none, some (.int x16)]) rfl rfl) ?_
            refine gg_st (go_goto (pc' := 379) d_X12_readTerm_325 (by decide)) ?_
            refine gg_st (go_fg [some (.ref (0)), some (.int v4), none, some (.int (1 : Int32)), none, none, none] ⟨rfl, ⟨rfl, ⟨rfl, trivial⟩⟩⟩) ?_
            exact hjp27 (v4, (1 : Int32), s23)
    · refine gg_st (go_fg [some (.ref (0)), some (.int v4), none, none, none, none, none] ⟨rfl, ⟨rfl, trivial⟩⟩) ?_
      exact hk0 (v4, g)
set_option maxRecDepth 20000 in
theorem g_f_X12_readTerm_L2 (l : Launch) (w : Wo) (F : Nat) (k0 : St → Option (Int32 × St)) (k1 : St → Option (Int32 × St)) (k2 : St → Option (Int32 × St)) (k3 : St → Option (Int32 × St)) (k4 : Int32 × St → Option (Int32 × St)) (k5 : St → Option (Int32 × St)) (k6 : St → Option (Int32 × St)) (hk0 : ∀ t, GG l w shM m_X12_readTerm 4 229 [some (.ref (0)), none, none, none, none, none, none] [] t (k0 t) (fun q => .inr ((rIS) q))) (hk1 : ∀ t, GG l w shM m_X12_readTerm 4 209 [some (.ref (0)), none, none, none, none, none, none] [] t (k1 t) (fun q => .inr ((rIS) q))) (hk2 : ∀ t, GG l w shM m_X12_readTerm 4 102 [some (.ref (0)), none, none, none, none, none, none] [] t (k2 t) (fun q => .inr ((rIS) q))) (hk3 : ∀ t, GG l w shM m_X12_readTerm 4 75 [some (.ref (0)), none, none, none, none, none, none] [] t (k3 t) (fun q => .inr ((rIS) q))) (hk4 : ∀ t, GG l w shM m_X12_readTerm 4 355 [some (.ref (0)), none, none, none, some (.int t.1), none, none] [] t.2 (k4 t) (fun q => .inr ((rIS) q))) (hk5 : ∀ t, GG l w shM m_X12_readTerm 4 337 [some (.ref (0)), none, none, none, none, none, none] [] t (k5 t) (fun q => .inr ((rIS) q))) (hk6 : ∀ t, GG l w shM m_X12_readTerm 4 37 [some (.ref (0)), none, none, none, none, none, none] [] t (k6 t) (fun q => .inr ((rIS) q))) : ∀ (n : Nat) (v1 : Int32) (g : St), GG l w shM m_X12_readTerm 4 2 [some (.ref (0)), some (.int v1), none, none, none, none, none] [] g (f_X12_readTerm_L2 F k0 k1 k2 k3 k4 k5 k6 n v1 g) (fun q => .inr ((rIS) q)) := by
  intro n
  induction n with
  | zero =>
    intro v1 g
    exact gg_none
  | succ n ih =>
    intro v1 g
    rw [f_X12_readTerm_L2]
    refine gg_st (go_iconst d_X12_readTerm_2 ci_0 rfl) ?_
    refine gg_st (go_istore_n 2 d_X12_readTerm_3 rfl (by decide) (L' := [some (.ref (0)), some (.int v1), some (.int (0 : Int32)), none, none, none, none]) rfl rfl) ?_
    refine gg_st (go_aload_n 0 d_X12_readTerm_4 rfl rfl rfl) ?_
    refine gg_st (go_getI (j := 29) cf12 sM_0 rfl (by decide) fl_X12_205 d_X12_readTerm_5 rfl) ?_
    refine gg_st (go_iconst d_X12_readTerm_8 ci_1 rfl) ?_
    refine gg_jp 234 (fun (t2 : Int32 × Int32 × St) => [some (.ref (0)), some (.int t2.1), some (.int t2.2.1), none, none, none, none]) (fun (t2 : Int32 × Int32 × St) => []) (fun (t2 : Int32 × Int32 × St) => t2.2.2) (fun t2 => ?_) (fun jp3 hjp3 => ?_)
    · refine gg_st (go_iload_n 2 d_X12_readTerm_234 rfl rfl rfl) ?_
      refine gg_st (go_istore_n 3 d_X12_readTerm_235 rfl (by decide) (L' := [some (.ref (0)), some (.int t2.1), some (.int t2.2.1), some (.int t2.2.1), none, none, none]) rfl rfl) ?_
      refine gg_st (go_fg [some (.ref (0)), some (.int t2.1), none, some (.int t2.2.1), none, none, none] ⟨rfl, ⟨rfl, ⟨rfl, trivial⟩⟩⟩) ?_
      refine g_f_X12_readTerm_L236 l w F _ _ _ (fun t38 => ?_) (fun t39 => ?_) (fun t40 => ?_) F t2.1 t2.2.1 t2.2.2
      · refine gg_st (go_goto (pc' := 2) d_X12_readTerm_386 (by decide)) ?_
        exact ih t38.1 t38.2
      · exact hk4 (t39.1, t39.2)
      · exact hk5 t40
    refine gg_br (br_icmp_ne (tgt := 54) (pc' := 12) d_X12_readTerm_9 (by decide) rfl) (fun h41 => ?_) (fun h41 => ?_)
    · refine gg_st (go_aload_n 0 d_X12_readTerm_12 rfl rfl rfl) ?_
      refine gg_st (go_iload_n 1 d_X12_readTerm_13 rfl rfl rfl) ?_
      refine gg_st (go_bipush d_X12_readTerm_14 cb_12 rfl) ?_
      refine gg_bind 27 (fun (t42 : Int32 × St) => [some (.ref (0)), some (.int v1), some (.int (0 : Int32)), none, none, none, none]) (fun (t42 : Int32 × St) => [.int t42.1, .ref (0)]) (fun (t42 : Int32 × St) => t42.2) ?_ (fun t42 => ?_)
      · refine gg_br (br_icmp_ne (tgt := 23) (pc' := 19) d_X12_readTerm_16 (by decide) rfl) (fun h43 => ?_) (fun h43 => ?_)
        · refine gg_st (go_iconst d_X12_readTerm_19 ci_m1 rfl) ?_
          refine gg_st (go_goto (pc' := 27) d_X12_readTerm_20 (by decide)) ?_
          exact gg_end rfl
        · refine gg_st (go_aload_n 0 d_X12_readTerm_23 rfl rfl rfl) ?_
          refine gv_IS (k_X12_useName l w F  g) cv_X12_270 sM_0 (Nat.le_of_ble_eq_true rfl) rfl rfl (Nat.le_of_ble_eq_true rfl) d_X12_readTerm_24 rfl (fun x44 => ?_)
          exact gg_end rfl
      · refine gg_st (go_putI (j := 60) cf12 sM_0 rfl (by decide) rfl rfl fl_X12_274 d_X12_readTerm_27 rfl) ?_
        refine gg_som (fun s45 => ?_)
        refine gg_st (go_aload_n 0 d_X12_readTerm_30 rfl rfl rfl) ?_
        refine gg_st (go_getI (j := 60) cf12 sM_0 rfl (by decide) fl_X12_274 d_X12_readTerm_31 rfl) ?_
        refine gg_br (br_if_ge (tgt := 47) (pc' := 37) d_X12_readTerm_34 (by decide) rfl) (fun h46 => ?_) (fun h46 => ?_)
        · refine gg_st (go_fg [some (.ref (0)), none, none, none, none, none, none] ⟨rfl, trivial⟩) ?_
          exact hk6 s45
        · refine gg_st (go_aload_n 0 d_X12_readTerm_47 rfl rfl rfl) ?_
          refine gv_V (k_X12_take l w F  s45) cv_X12_245 sM_0 (Nat.le_of_ble_eq_true rfl) rfl rfl (Nat.le_of_ble_eq_true rfl) d_X12_readTerm_48 rfl (fun s47 => ?_)
          refine gg_st (go_goto (pc' := 234) d_X12_readTerm_51 (by decide)) ?_
          exact hjp3 (v1, (0 : Int32), s47)
    · refine gg_st (go_aload_n 0 d_X12_readTerm_54 rfl rfl rfl) ?_
      refine gg_st (go_getI (j := 29) cf12 sM_0 rfl (by decide) fl_X12_205 d_X12_readTerm_55 rfl) ?_
      refine gg_st (go_iconst d_X12_readTerm_58 ci_2 rfl) ?_
      refine gg_br (br_icmp_ne (tgt := 229) (pc' := 62) d_X12_readTerm_59 (by decide) rfl) (fun h48 => ?_) (fun h48 => ?_)
      · refine gg_st (go_aload_n 0 d_X12_readTerm_62 rfl rfl rfl) ?_
        refine gg_st (go_aload_n 0 d_X12_readTerm_63 rfl rfl rfl) ?_
        refine gg_st (go_getL (j := 32) cf12 sM_0 rfl (by decide) fl_X12_225 d_X12_readTerm_64 rfl) ?_
        refine gv_I (k_X12_kindNamed l w F (g.2 (0) 32) g) cv_X12_251 sM_0 (Nat.le_of_ble_eq_true rfl) rfl rfl (Nat.le_of_ble_eq_true rfl) d_X12_readTerm_67 rfl (fun x49 => ?_)
        refine gg_st (go_istore_n 3 d_X12_readTerm_70 rfl (by decide) (L' := [some (.ref (0)), some (.int v1), some (.int (0 : Int32)), some (.int x49), none, none, none]) rfl rfl) ?_
        refine gg_st (go_iload_n 3 d_X12_readTerm_71 rfl rfl rfl) ?_
        refine gg_br (br_if_ge (tgt := 85) (pc' := 75) d_X12_readTerm_72 (by decide) rfl) (fun h52 => ?_) (fun h52 => ?_)
        · refine gg_st (go_fg [some (.ref (0)), none, none, none, none, none, none] ⟨rfl, trivial⟩) ?_
          exact hk3 g
        · refine gg_st (go_iload_n 1 d_X12_readTerm_85 rfl rfl rfl) ?_
          refine gg_st (go_bipush d_X12_readTerm_86 cb_12 rfl) ?_
          refine gg_two (c := (v1 = (12 : Int32)) ∨ ((g.1 (0) 49) = (g.1 (0) 50))) (pA := 102) (pB := 112) (LL := [some (.ref (0)), some (.int v1), some (.int (0 : Int32)), some (.int x49), none, none, none]) (ss := []) ?_ ?_ (fun hA77 hB78 => ?_)
          · refine gg_st (go_fg [some (.ref (0)), none, none, none, none, none, none] ⟨rfl, trivial⟩) ?_
            exact hk2 g
          · refine gg_st (go_aload_n 0 d_X12_readTerm_112 rfl rfl rfl) ?_
            refine gg_st (go_getR (j := 51) cf12 sM_0 rfl (by decide) fl_X12_98 d_X12_readTerm_113 rfl) ?_
            refine gg_st (go_aload_n 0 d_X12_readTerm_116 rfl rfl rfl) ?_
            refine gg_st (go_getI (j := 49) cf12 sM_0 rfl (by decide) fl_X12_261 d_X12_readTerm_117 rfl) ?_
            refine gg_st (go_iload_n 3 d_X12_readTerm_120 rfl rfl rfl) ?_
            refine gg_gd (fun h55 => ?_)
            refine gg_st (go_iast sM_27 h55 d_X12_readTerm_121 rfl) ?_
            refine gg_som (fun s56 => ?_)
            refine gg_st (go_aload_n 0 d_X12_readTerm_122 rfl rfl rfl) ?_
            refine gg_st (go_getR (j := 52) cf12 sM_0 rfl (by decide) fl_X12_101 d_X12_readTerm_123 rfl) ?_
            refine gg_st (go_aload_n 0 d_X12_readTerm_126 rfl rfl rfl) ?_
            refine gg_st (go_getI (j := 49) cf12 sM_0 rfl (by decide) fl_X12_261 d_X12_readTerm_127 rfl) ?_
            refine gg_st (go_aload_n 0 d_X12_readTerm_130 rfl rfl rfl) ?_
            refine gg_st (go_getI (j := 30) cf12 sM_0 rfl (by decide) fl_X12_202 d_X12_readTerm_131 rfl) ?_
            refine gg_gd (fun h57 => ?_)
            refine gg_st (go_iast sM_28 h57 d_X12_readTerm_134 rfl) ?_
            refine gg_som (fun s58 => ?_)
            refine gg_st (go_aload_n 0 d_X12_readTerm_135 rfl rfl rfl) ?_
            refine gg_st (go_iconst d_X12_readTerm_136 ci_5 rfl) ?_
            refine gg_st (go_aload_n 0 d_X12_readTerm_137 rfl rfl rfl) ?_
            refine gg_st (go_getI (j := 49) cf12 sM_0 rfl (by decide) fl_X12_261 d_X12_readTerm_138 rfl) ?_
            refine gg_st (go_imul d_X12_readTerm_141 rfl) ?_
            refine gg_st (go_putI (j := 60) cf12 sM_0 rfl (by decide) rfl rfl fl_X12_274 d_X12_readTerm_142 rfl) ?_
            refine gg_som (fun s59 => ?_)
            refine gg_st (go_aload_n 0 d_X12_readTerm_145 rfl rfl rfl) ?_
            refine gg_st (go_dup d_X12_readTerm_146 rfl rfl) ?_
            refine gg_st (go_getI (j := 49) cf12 sM_0 rfl (by decide) fl_X12_261 d_X12_readTerm_147 rfl) ?_
            refine gg_st (go_iconst d_X12_readTerm_150 ci_1 rfl) ?_
            refine gg_st (go_iadd d_X12_readTerm_151 rfl) ?_
            refine gg_st (go_putI (j := 49) cf12 sM_0 rfl (by decide) rfl rfl fl_X12_261 d_X12_readTerm_152 rfl) ?_
            refine gg_som (fun s60 => ?_)
            refine gg_st (go_aload_n 0 d_X12_readTerm_155 rfl rfl rfl) ?_
            refine gv_V (k_X12_take l w F  s60) cv_X12_245 sM_0 (Nat.le_of_ble_eq_true rfl) rfl rfl (Nat.le_of_ble_eq_true rfl) d_X12_readTerm_156 rfl (fun s61 => ?_)
            refine gg_st (go_aload_n 0 d_X12_readTerm_159 rfl rfl rfl) ?_
            refine gg_st (go_bipush d_X12_readTerm_160 cb_40 rfl) ?_
            refine gv_I (k_X12_isSign l w (40 : Int32) s61) cv_X12_238 sM_0 (Nat.le_of_ble_eq_true rfl) rfl rfl (Nat.le_of_ble_eq_true rfl) d_X12_readTerm_162 rfl (fun x62 => ?_)
            refine gg_st (go_istore_n 2 d_X12_readTerm_165 rfl (by decide) (L' := [some (.ref (0)), some (.int v1), some (.int x62), some (.int x49), none, none, none]) rfl rfl) ?_
            refine gg_st (go_iload_n 2 d_X12_readTerm_166 rfl rfl rfl) ?_
            refine gg_jp 226 (fun (t66 : Int32 × St) => [some (.ref (0)), some (.int t66.1), some (.int x62), none, none, none, none]) (fun (t66 : Int32 × St) => []) (fun (t66 : Int32 × St) => t66.2) (fun t66 => ?_) (fun jp67 hjp67 => ?_)
            · refine gg_st (go_goto (pc' := 234) d_X12_readTerm_226 (by decide)) ?_
              exact hjp3 (t66.1, x62, t66.2)
            refine gg_br (br_if_eq (tgt := 199) (pc' := 170) d_X12_readTerm_167 (by decide) rfl) (fun h68 => ?_) (fun h68 => ?_)
            · refine gg_st (go_aload_n 0 d_X12_readTerm_199 rfl rfl rfl) ?_
              refine gg_st (go_getR (j := 38) cf12 sM_0 rfl (by decide) fl_X12_71 d_X12_readTerm_200 rfl) ?_
              refine gg_st (go_iload_n 3 d_X12_readTerm_203 rfl rfl rfl) ?_
              refine gg_gd (fun h69 => ?_)
              refine gg_st (go_iald sM_18 h69 d_X12_readTerm_204 rfl) ?_
              refine gg_st (go_iconst d_X12_readTerm_205 ci_1 rfl) ?_
              refine gg_br (br_icmp_eq (tgt := 226) (pc' := 209) d_X12_readTerm_206 (by decide) rfl) (fun h70 => ?_) (fun h70 => ?_)
              · refine gg_st (go_fg [some (.ref (0)), some (.int v1), some (.int x62), none, none, none, none] ⟨rfl, ⟨rfl, ⟨rfl, trivial⟩⟩⟩) ?_
                exact hjp67 (v1, s61)
              · refine gg_st (go_fg [some (.ref (0)), none, none, none, none, none, none] ⟨rfl, trivial⟩) ?_
                exact hk1 s61
            · refine gg_st (go_aload_n 0 d_X12_readTerm_170 rfl rfl rfl) ?_
              refine gg_st (go_getR (j := 58) cf12 sM_0 rfl (by decide) fl_X12_116 d_X12_readTerm_171 rfl) ?_
              refine gg_st (go_iload_n 1 d_X12_readTerm_174 rfl rfl rfl) ?_
              refine gg_st (go_aload_n 0 d_X12_readTerm_175 rfl rfl rfl) ?_
              refine gg_st (go_getI (j := 49) cf12 sM_0 rfl (by decide) fl_X12_261 d_X12_readTerm_176 rfl) ?_
              refine gg_st (go_iconst d_X12_readTerm_179 ci_1 rfl) ?_
              refine gg_st (go_isub d_X12_readTerm_180 rfl) ?_
              refine gg_gd (fun h71 => ?_)
              refine gg_st (go_iast sM_33 h71 d_X12_readTerm_181 rfl) ?_
              refine gg_som (fun s72 => ?_)
              refine gg_st (go_aload_n 0 d_X12_readTerm_182 rfl rfl rfl) ?_
              refine gg_st (go_getR (j := 59) cf12 sM_0 rfl (by decide) fl_X12_119 d_X12_readTerm_183 rfl) ?_
              refine gg_st (go_iload_n 1 d_X12_readTerm_186 rfl rfl rfl) ?_
              refine gg_st (go_iconst d_X12_readTerm_187 ci_1 rfl) ?_
              refine gg_gd (fun h73 => ?_)
              refine gg_st (go_iast sM_34 h73 d_X12_readTerm_188 rfl) ?_
              refine gg_som (fun s74 => ?_)
              refine gg_st (go_iinc 1 d_X12_readTerm_189 rfl (v := v1 + (1 : Int32)) (by rw [ci_1]) (by decide) (L' := [some (.ref (0)), some (.int (v1 + (1 : Int32))), some (.int x62), some (.int x49), none, none, none]) rfl rfl) ?_
              refine gg_nm (fun (x75 : Int32) => [some (.ref (0)), some (.int x75), some (.int x62), some (.int x49), none, none, none]) (fun _ => []) (fun x75 => ?_)
              refine gg_st (go_aload_n 0 d_X12_readTerm_192 rfl rfl rfl) ?_
              refine gv_V (k_X12_take l w F  s74) cv_X12_245 sM_0 (Nat.le_of_ble_eq_true rfl) rfl rfl (Nat.le_of_ble_eq_true rfl) d_X12_readTerm_193 rfl (fun s76 => ?_)
              refine gg_st (go_goto (pc' := 226) d_X12_readTerm_196 (by decide)) ?_
              refine gg_st (go_fg [some (.ref (0)), some (.int x75), some (.int x62), none, none, none, none] ⟨rfl, ⟨rfl, ⟨rfl, trivial⟩⟩⟩) ?_
              exact hjp67 (x75, s76)
          refine gg_brs (br_icmp_eq (tgt := 102) (pc' := 91) d_X12_readTerm_88 (by decide) rfl) (fun h79 => ?_) (fun h79 => ?_)
          · exact gg_eq (if_pos (Or.inl h79)) hA77
          · refine gg_st (go_aload_n 0 d_X12_readTerm_91 rfl rfl rfl) ?_
            refine gg_st (go_getI (j := 49) cf12 sM_0 rfl (by decide) fl_X12_261 d_X12_readTerm_92 rfl) ?_
            refine gg_st (go_aload_n 0 d_X12_readTerm_95 rfl rfl rfl) ?_
            refine gg_st (go_getI (j := 50) cf12 sM_0 rfl (by decide) fl_X12_264 d_X12_readTerm_96 rfl) ?_
            refine gg_brs (br_icmp_ne (tgt := 112) (pc' := 102) d_X12_readTerm_99 (by decide) rfl) (fun h80 => ?_) (fun h80 => ?_)
            · exact gg_eq (if_pos (Or.inr h80)) hA77
            · exact gg_eq (if_neg (fun z => z.elim h79 h80)) hB78
      · refine gg_st (go_fg [some (.ref (0)), none, none, none, none, none, none] ⟨rfl, trivial⟩) ?_
        exact hk0 g
set_option maxRecDepth 20000 in
theorem k_X12_readTerm (l : Launch) (w : Wo) (F : Nat) (σ : St) : K l w shM m_X12_readTerm 4 [.ref (0)] σ (f_X12_readTerm F σ) (rIS) := by
  refine k_of (L := [some (.ref (0)), none, none, none, none, none, none]) (plainFor_of_name (by decide +kernel)) 6 rfl (Nat.le_of_ble_eq_true rfl) ?_
  unfold f_X12_readTerm
  refine gg_st (go_iconst d_X12_readTerm_0 ci_0 rfl) ?_
  refine gg_st (go_istore_n 1 d_X12_readTerm_1 rfl (by decide) (L' := [some (.ref (0)), some (.int (0 : Int32)), none, none, none, none, none]) rfl rfl) ?_
  refine g_f_X12_readTerm_L2 l w F _ _ _ _ _ _ _ (fun t81 => ?_) (fun t84 => ?_) (fun t88 => ?_) (fun t91 => ?_) (fun t94 => ?_) (fun t98 => ?_) (fun t101 => ?_) F (0 : Int32) σ
  · refine gg_st (go_aload_n 0 d_X12_readTerm_229 rfl rfl rfl) ?_
    refine gv_IS (k_X12_wrong l w  t81) cv_X12_241 sM_0 (Nat.le_of_ble_eq_true rfl) rfl rfl (Nat.le_of_ble_eq_true rfl) d_X12_readTerm_230 rfl (fun x82 => ?_)
    refine gg_gd (fun h83 => ?_)
    exact gg_zret h83 rfl d_X12_readTerm_233 rfl
  · refine gg_st (go_aload_n 0 d_X12_readTerm_209 rfl rfl rfl) ?_
    refine gg_st (go_iconst d_X12_readTerm_210 ci_5 rfl) ?_
    refine gg_st (go_aload_n 0 d_X12_readTerm_211 rfl rfl rfl) ?_
    refine gg_st (go_getR (j := 52) cf12 sM_0 rfl (by decide) fl_X12_101 d_X12_readTerm_212 rfl) ?_
    refine gg_st (go_aload_n 0 d_X12_readTerm_215 rfl rfl rfl) ?_
    refine gg_st (go_getI (j := 49) cf12 sM_0 rfl (by decide) fl_X12_261 d_X12_readTerm_216 rfl) ?_
    refine gg_st (go_iconst d_X12_readTerm_219 ci_1 rfl) ?_
    refine gg_st (go_isub d_X12_readTerm_220 rfl) ?_
    refine gg_gd (fun h85 => ?_)
    refine gg_st (go_iald sM_28 h85 d_X12_readTerm_221 rfl) ?_
    refine gv_IS (k_X12_fail l w (5 : Int32) (t84.1 (28) (ix ((t84.1 (0) 49) - (1 : Int32)))) t84) cv_X12_234 sM_0 (Nat.le_of_ble_eq_true rfl) rfl rfl (Nat.le_of_ble_eq_true rfl) d_X12_readTerm_222 rfl (fun x86 => ?_)
    refine gg_gd (fun h87 => ?_)
    exact gg_zret h87 rfl d_X12_readTerm_225 rfl
  · refine gg_st (go_aload_n 0 d_X12_readTerm_102 rfl rfl rfl) ?_
    refine gg_st (go_iconst d_X12_readTerm_103 ci_4 rfl) ?_
    refine gg_st (go_aload_n 0 d_X12_readTerm_104 rfl rfl rfl) ?_
    refine gg_st (go_getI (j := 30) cf12 sM_0 rfl (by decide) fl_X12_202 d_X12_readTerm_105 rfl) ?_
    refine gv_IS (k_X12_fail l w (4 : Int32) (t88.1 (0) 30) t88) cv_X12_234 sM_0 (Nat.le_of_ble_eq_true rfl) rfl rfl (Nat.le_of_ble_eq_true rfl) d_X12_readTerm_108 rfl (fun x89 => ?_)
    refine gg_gd (fun h90 => ?_)
    exact gg_zret h90 rfl d_X12_readTerm_111 rfl
  · refine gg_st (go_aload_n 0 d_X12_readTerm_75 rfl rfl rfl) ?_
    refine gg_st (go_iconst d_X12_readTerm_76 ci_3 rfl) ?_
    refine gg_st (go_aload_n 0 d_X12_readTerm_77 rfl rfl rfl) ?_
    refine gg_st (go_getI (j := 30) cf12 sM_0 rfl (by decide) fl_X12_202 d_X12_readTerm_78 rfl) ?_
    refine gv_IS (k_X12_fail l w (3 : Int32) (t91.1 (0) 30) t91) cv_X12_234 sM_0 (Nat.le_of_ble_eq_true rfl) rfl rfl (Nat.le_of_ble_eq_true rfl) d_X12_readTerm_81 rfl (fun x92 => ?_)
    refine gg_gd (fun h93 => ?_)
    exact gg_zret h93 rfl d_X12_readTerm_84 rfl
  · refine gg_st (go_aload_n 0 d_X12_readTerm_355 rfl rfl rfl) ?_
    refine gg_st (go_iconst d_X12_readTerm_356 ci_5 rfl) ?_
    refine gg_st (go_aload_n 0 d_X12_readTerm_357 rfl rfl rfl) ?_
    refine gg_st (go_getR (j := 52) cf12 sM_0 rfl (by decide) fl_X12_101 d_X12_readTerm_358 rfl) ?_
    refine gg_st (go_iload 4 d_X12_readTerm_361 rfl rfl) ?_
    refine gg_gd (fun h95 => ?_)
    refine gg_st (go_iald sM_28 h95 d_X12_readTerm_363 rfl) ?_
    refine gv_IS (k_X12_fail l w (5 : Int32) (t94.2.1 (28) (ix t94.1)) t94.2) cv_X12_234 sM_0 (Nat.le_of_ble_eq_true rfl) rfl rfl (Nat.le_of_ble_eq_true rfl) d_X12_readTerm_364 rfl (fun x96 => ?_)
    refine gg_gd (fun h97 => ?_)
    exact gg_zret h97 rfl d_X12_readTerm_367 rfl
  · refine gg_st (go_aload_n 0 d_X12_readTerm_337 rfl rfl rfl) ?_
    refine gv_IS (k_X12_wrong l w  t98) cv_X12_241 sM_0 (Nat.le_of_ble_eq_true rfl) rfl rfl (Nat.le_of_ble_eq_true rfl) d_X12_readTerm_338 rfl (fun x99 => ?_)
    refine gg_gd (fun h100 => ?_)
    exact gg_zret h100 rfl d_X12_readTerm_341 rfl
  · refine gg_st (go_aload_n 0 d_X12_readTerm_37 rfl rfl rfl) ?_
    refine gg_st (go_iconst d_X12_readTerm_38 ci_4 rfl) ?_
    refine gg_st (go_aload_n 0 d_X12_readTerm_39 rfl rfl rfl) ?_
    refine gg_st (go_getI (j := 30) cf12 sM_0 rfl (by decide) fl_X12_202 d_X12_readTerm_40 rfl) ?_
    refine gv_IS (k_X12_fail l w (4 : Int32) (t101.1 (0) 30) t101) cv_X12_234 sM_0 (Nat.le_of_ble_eq_true rfl) rfl rfl (Nat.le_of_ble_eq_true rfl) d_X12_readTerm_43 rfl (fun x102 => ?_)
    refine gg_gd (fun h103 => ?_)
    exact gg_zret h103 rfl d_X12_readTerm_46 rfl
