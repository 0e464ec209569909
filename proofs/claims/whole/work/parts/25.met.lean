def f_X1_kindOf (p1 : Int32) (σ : St) : Option (Int32) :=
  if (0 ≤ p1) ∧ ((p1 < (σ.1 (2) 5)) ∧ (p1 < (200 : Int32))) then (
    if inb p1 200 then (
      some (σ.1 (4) (ix p1)))
    else none)
  else (
    some (-1 : Int32))
set_option maxRecDepth 20000 in
theorem k_X1_kindOf (l : Launch) (w : Wo) (p1 : Int32) (σ : St) : K l w shC m_X1_kindOf 1 [.ref (2), .int p1] σ (f_X1_kindOf p1 σ) (rI σ) := by
  refine k_of (L := [some (.ref (2)), some (.int p1)]) (plainFor_of_name (by decide +kernel)) 0 rfl (Nat.le_of_ble_eq_true rfl) ?_
  unfold f_X1_kindOf
  refine gg_st (go_iload_n 1 d_X1_kindOf_0 rfl rfl rfl) ?_
  refine gg_two (c := (0 ≤ p1) ∧ ((p1 < (σ.1 (2) 5)) ∧ (p1 < (200 : Int32)))) (pA := 19) (pB := 28) (LL := [some (.ref (2)), some (.int p1)]) (ss := []) ?_ ?_ (fun hA3 hB4 => ?_)
  · refine gg_st (go_aload_n 0 d_X1_kindOf_19 rfl rfl rfl) ?_
    refine gg_st (go_getR (j := 1) cf1 sC_2 rfl (by decide) fl_X1_15 d_X1_kindOf_20 rfl) ?_
    refine gg_st (go_iload_n 1 d_X1_kindOf_23 rfl rfl rfl) ?_
    refine gg_gd (fun h2 => ?_)
    refine gg_st (go_iald sC_4 h2 d_X1_kindOf_24 rfl) ?_
    refine gg_st (go_goto (pc' := 29) d_X1_kindOf_25 (by decide)) ?_
    exact gg_iret rfl d_X1_kindOf_29 rfl
  · refine gg_st (go_iconst d_X1_kindOf_28 ci_m1 rfl) ?_
    exact gg_iret rfl d_X1_kindOf_29 rfl
  refine gg_brs (br_if_lt (tgt := 28) (pc' := 4) d_X1_kindOf_1 (by decide) rfl) (fun h5 => ?_) (fun h5 => ?_)
  · refine gg_st (go_iload_n 1 d_X1_kindOf_4 rfl rfl rfl) ?_
    refine gg_st (go_aload_n 0 d_X1_kindOf_5 rfl rfl rfl) ?_
    refine gg_st (go_getI (j := 5) cf1 sC_2 rfl (by decide) fl_X1_35 d_X1_kindOf_6 rfl) ?_
    refine gg_brs (br_icmp_ge (tgt := 28) (pc' := 12) d_X1_kindOf_9 (by decide) rfl) (fun h6 => ?_) (fun h6 => ?_)
    · refine gg_st (go_iload_n 1 d_X1_kindOf_12 rfl rfl rfl) ?_
      refine gg_st (go_sipush d_X1_kindOf_13 cs_200 rfl) ?_
      refine gg_brs (br_icmp_ge (tgt := 28) (pc' := 19) d_X1_kindOf_16 (by decide) rfl) (fun h7 => ?_) (fun h7 => ?_)
      · exact gg_eq (if_pos ⟨h5, ⟨h6, h7⟩⟩) hA3
      · exact gg_eq (if_neg (fun z => (fun z => h7 z.2) z.2)) hB4
    · exact gg_eq (if_neg (fun z => (fun z => h6 z.1) z.2)) hB4
  · exact gg_eq (if_neg (fun z => h5 z.1)) hB4
def f_X6_slotKind (p1 : Int32) (σ : St) : Option (Int32) :=
  Option.bind (
    if p1 < (4 : Int32) then (
      some (0 : Int32))
    else (
      some (1 : Int32))) fun t1 =>
  if inb t1 2 then (
    some (σ.1 (8) (ix t1)))
  else none
set_option maxRecDepth 20000 in
theorem k_X6_slotKind (l : Launch) (w : Wo) (p1 : Int32) (σ : St) : K l w shC m_X6_slotKind 1 [.ref (1), .int p1] σ (f_X6_slotKind p1 σ) (rI σ) := by
  refine k_of (L := [some (.ref (1)), some (.int p1)]) (plainFor_of_name (by decide +kernel)) 0 rfl (Nat.le_of_ble_eq_true rfl) ?_
  unfold f_X6_slotKind
  refine gg_st (go_aload_n 0 d_X6_slotKind_0 rfl rfl rfl) ?_
  refine gg_st (go_getR (j := 1) cf6 sC_1 rfl (by decide) fl_X6_18 d_X6_slotKind_1 rfl) ?_
  refine gg_st (go_iload_n 1 d_X6_slotKind_4 rfl rfl rfl) ?_
  refine gg_st (go_iconst d_X6_slotKind_5 ci_4 rfl) ?_
  refine gg_bind 14 (fun (t1 : Int32) => [none, none]) (fun (t1 : Int32) => [.int t1, .ref (8)]) (fun (t1 : Int32) => σ) ?_ (fun t1 => ?_)
  · refine gg_br (br_icmp_ge (tgt := 13) (pc' := 9) d_X6_slotKind_6 (by decide) rfl) (fun h2 => ?_) (fun h2 => ?_)
    · refine gg_st (go_iconst d_X6_slotKind_9 ci_0 rfl) ?_
      refine gg_st (go_goto (pc' := 14) d_X6_slotKind_10 (by decide)) ?_
      refine gg_st (go_fg [none, none] trivial) ?_
      exact gg_end rfl
    · refine gg_st (go_iconst d_X6_slotKind_13 ci_1 rfl) ?_
      refine gg_st (go_fg [none, none] trivial) ?_
      exact gg_end rfl
  · refine gg_gd (fun h3 => ?_)
    refine gg_st (go_iald sC_8 h3 d_X6_slotKind_14 rfl) ?_
    exact gg_iret rfl d_X6_slotKind_15 rfl
def f_X6_slotPort (p1 : Int32) : Int32 :=
  if p1 < (4 : Int32) then (
    p1 + (1 : Int32))
  else (
    (p1 - (4 : Int32)) + (1 : Int32))
set_option maxRecDepth 20000 in
theorem k_X6_slotPort (l : Launch) (w : Wo) (p1 : Int32) (σ : St) : K l w shC m_X6_slotPort 1 [.int p1] σ (some (f_X6_slotPort p1)) (rI σ) := by
  refine k_of (L := [some (.int p1)]) (plainFor_of_name (by decide +kernel)) 0 rfl (Nat.le_of_ble_eq_true rfl) ?_
  unfold f_X6_slotPort
  refine gg_st (go_iload_n 0 d_X6_slotPort_0 rfl rfl rfl) ?_
  refine gg_st (go_iconst d_X6_slotPort_1 ci_4 rfl) ?_
  refine gg_brv (f := fun z => some z) (br_icmp_ge (tgt := 9) (pc' := 5) d_X6_slotPort_2 (by decide) rfl) (fun h1 => ?_) (fun h1 => ?_)
  · refine gg_st (go_iload_n 0 d_X6_slotPort_5 rfl rfl rfl) ?_
    refine gg_st (go_goto (pc' := 12) d_X6_slotPort_6 (by decide)) ?_
    refine gg_st (go_iconst d_X6_slotPort_12 ci_1 rfl) ?_
    refine gg_st (go_iadd d_X6_slotPort_13 rfl) ?_
    exact gg_iret rfl d_X6_slotPort_14 rfl
  · refine gg_st (go_iload_n 0 d_X6_slotPort_9 rfl rfl rfl) ?_
    refine gg_st (go_iconst d_X6_slotPort_10 ci_4 rfl) ?_
    refine gg_st (go_isub d_X6_slotPort_11 rfl) ?_
    refine gg_st (go_iconst d_X6_slotPort_12 ci_1 rfl) ?_
    refine gg_st (go_iadd d_X6_slotPort_13 rfl) ?_
    exact gg_iret rfl d_X6_slotPort_14 rfl
def f_X6_slotSort (p1 : Int32) (σ : St) : Option (Int32) :=
  Option.bind (f_X6_slotKind p1 σ) fun x1 =>
  Option.bind (some (f_X6_slotPort p1)) fun x2 =>
  Option.bind (f_X3_sortOf (15) x1 x2 σ) fun x3 =>
  some (x3 ^^^ (-1 : Int32))
set_option maxRecDepth 20000 in
theorem k_X6_slotSort (l : Launch) (w : Wo) (p1 : Int32) (σ : St) : K l w shC m_X6_slotSort 2 [.ref (1), .int p1] σ (f_X6_slotSort p1 σ) (rI σ) := by
  refine k_of (L := [some (.ref (1)), some (.int p1)]) (plainFor_of_name (by decide +kernel)) 0 rfl (Nat.le_of_ble_eq_true rfl) ?_
  unfold f_X6_slotSort
  refine gg_st (go_aload_n 0 d_X6_slotSort_0 rfl rfl rfl) ?_
  refine gg_st (go_getR (j := 6) cf6 sC_1 rfl (by decide) fl_X6_32 d_X6_slotSort_1 rfl) ?_
  refine gg_st (go_getR (j := 0) cf0 sC_14 rfl (by decide) fl_X6_91 d_X6_slotSort_4 rfl) ?_
  refine gg_st (go_aload_n 0 d_X6_slotSort_7 rfl rfl rfl) ?_
  refine gg_st (go_iload_n 1 d_X6_slotSort_8 rfl rfl rfl) ?_
  refine gv_I (k_X6_slotKind l w p1 σ) cv_X6_250 sC_1 (Nat.le_of_ble_eq_true rfl) rfl rfl (Nat.le_of_ble_eq_true rfl) d_X6_slotSort_9 rfl (fun x1 => ?_)
  refine gg_st (go_iload_n 1 d_X6_slotSort_12 rfl rfl rfl) ?_
  refine gs_I (k_X6_slotPort l w p1 σ) cs_X6_253 (Nat.le_of_ble_eq_true rfl) rfl rfl (Nat.le_of_ble_eq_true rfl) d_X6_slotSort_13 rfl (fun x2 => ?_)
  refine gv_I (k_X3_sortOf l w (show 15 ∈ st15_65 by decide) x1 x2 σ) cv_X6_225 sC_15 (Nat.le_of_ble_eq_true rfl) rfl rfl (Nat.le_of_ble_eq_true rfl) d_X6_slotSort_16 rfl (fun x3 => ?_)
  refine gg_st (go_iconst d_X6_slotSort_19 ci_m1 rfl) ?_
  refine gg_st (go_ixor d_X6_slotSort_20 rfl) ?_
  exact gg_iret rfl d_X6_slotSort_21 rfl
def f_X6_fits (p1 : Int32) (p2 : Int32) (σ : St) : Option (Int32) :=
  if 0 ≤ p2 then (
    Option.bind (some (f_X11_agentOf p2)) fun x2 =>
    Option.bind (f_X1_kindOf x2 σ) fun x3 =>
    Option.bind (some (f_X11_portOf p2)) fun x4 =>
    Option.bind (f_X3_sortOf (15) x3 x4 σ) fun x5 =>
    if p1 = (x5 ^^^ (-1 : Int32)) then (
      some (1 : Int32))
    else (
      some (0 : Int32)))
  else (
    if (σ.1 (1) 2) = 0 then (
      some (1 : Int32))
    else (
      Option.bind (some (f_X11_endOf p2)) fun x8 =>
      Option.bind (f_X6_slotSort x8 σ) fun x9 =>
      if p1 = (x9 ^^^ (-1 : Int32)) then (
        some (1 : Int32))
      else (
        some (0 : Int32))))
set_option maxRecDepth 20000 in
theorem k_X6_fits (l : Launch) (w : Wo) (p1 : Int32) (p2 : Int32) (σ : St) : K l w shC m_X6_fits 3 [.ref (1), .int p1, .int p2] σ (f_X6_fits p1 p2 σ) (rI σ) := by
  refine k_of (L := [some (.ref (1)), some (.int p1), some (.int p2)]) (plainFor_of_name (by decide +kernel)) 0 rfl (Nat.le_of_ble_eq_true rfl) ?_
  unfold f_X6_fits
  refine gg_st (go_iload_n 2 d_X6_fits_0 rfl rfl rfl) ?_
  refine gg_br (br_if_lt (tgt := 41) (pc' := 4) d_X6_fits_1 (by decide) rfl) (fun h1 => ?_) (fun h1 => ?_)
  · refine gg_st (go_iload_n 1 d_X6_fits_4 rfl rfl rfl) ?_
    refine gg_st (go_aload_n 0 d_X6_fits_5 rfl rfl rfl) ?_
    refine gg_st (go_getR (j := 6) cf6 sC_1 rfl (by decide) fl_X6_32 d_X6_fits_6 rfl) ?_
    refine gg_st (go_getR (j := 0) cf0 sC_14 rfl (by decide) fl_X6_91 d_X6_fits_9 rfl) ?_
    refine gg_st (go_aload_n 0 d_X6_fits_12 rfl rfl rfl) ?_
    refine gg_st (go_getR (j := 0) cf6 sC_1 rfl (by decide) fl_X6_12 d_X6_fits_13 rfl) ?_
    refine gg_st (go_iload_n 2 d_X6_fits_16 rfl rfl rfl) ?_
    refine gs_I (k_X11_agentOf l w p2 σ) cs_X6_241 (Nat.le_of_ble_eq_true rfl) rfl rfl (Nat.le_of_ble_eq_true rfl) d_X6_fits_17 rfl (fun x2 => ?_)
    refine gv_I (k_X1_kindOf l w x2 σ) cv_X6_222 sC_2 (Nat.le_of_ble_eq_true rfl) rfl rfl (Nat.le_of_ble_eq_true rfl) d_X6_fits_20 rfl (fun x3 => ?_)
    refine gg_st (go_iload_n 2 d_X6_fits_23 rfl rfl rfl) ?_
    refine gs_I (k_X11_portOf l w p2 σ) cs_X6_244 (Nat.le_of_ble_eq_true rfl) rfl rfl (Nat.le_of_ble_eq_true rfl) d_X6_fits_24 rfl (fun x4 => ?_)
    refine gv_I (k_X3_sortOf l w (show 15 ∈ st15_65 by decide) x3 x4 σ) cv_X6_225 sC_15 (Nat.le_of_ble_eq_true rfl) rfl rfl (Nat.le_of_ble_eq_true rfl) d_X6_fits_27 rfl (fun x5 => ?_)
    refine gg_st (go_iconst d_X6_fits_30 ci_m1 rfl) ?_
    refine gg_st (go_ixor d_X6_fits_31 rfl) ?_
    refine gg_br (br_icmp_ne (tgt := 39) (pc' := 35) d_X6_fits_32 (by decide) rfl) (fun h6 => ?_) (fun h6 => ?_)
    · refine gg_st (go_iconst d_X6_fits_35 ci_1 rfl) ?_
      refine gg_st (go_goto (pc' := 40) d_X6_fits_36 (by decide)) ?_
      exact gg_zret (Or.inr rfl) rfl d_X6_fits_40 rfl
    · refine gg_st (go_iconst d_X6_fits_39 ci_0 rfl) ?_
      exact gg_zret (Or.inl rfl) rfl d_X6_fits_40 rfl
  · refine gg_st (go_aload_n 0 d_X6_fits_41 rfl rfl rfl) ?_
    refine gg_st (go_getI (j := 2) cf6 sC_1 rfl (by decide) fl_X6_137 d_X6_fits_42 rfl) ?_
    refine gg_br (br_if_eq (tgt := 62) (pc' := 48) d_X6_fits_45 (by decide) rfl) (fun h7 => ?_) (fun h7 => ?_)
    · refine gg_st (go_iconst d_X6_fits_62 ci_1 rfl) ?_
      refine gg_st (go_goto (pc' := 67) d_X6_fits_63 (by decide)) ?_
      exact gg_zret (Or.inr rfl) rfl d_X6_fits_67 rfl
    · refine gg_st (go_iload_n 1 d_X6_fits_48 rfl rfl rfl) ?_
      refine gg_st (go_aload_n 0 d_X6_fits_49 rfl rfl rfl) ?_
      refine gg_st (go_iload_n 2 d_X6_fits_50 rfl rfl rfl) ?_
      refine gs_I (k_X11_endOf l w p2 σ) cs_X6_247 (Nat.le_of_ble_eq_true rfl) rfl rfl (Nat.le_of_ble_eq_true rfl) d_X6_fits_51 rfl (fun x8 => ?_)
      refine gv_I (k_X6_slotSort l w x8 σ) cv_X6_238 sC_1 (Nat.le_of_ble_eq_true rfl) rfl rfl (Nat.le_of_ble_eq_true rfl) d_X6_fits_54 rfl (fun x9 => ?_)
      refine gg_st (go_iconst d_X6_fits_57 ci_m1 rfl) ?_
      refine gg_st (go_ixor d_X6_fits_58 rfl) ?_
      refine gg_br (br_icmp_ne (tgt := 66) (pc' := 62) d_X6_fits_59 (by decide) rfl) (fun h10 => ?_) (fun h10 => ?_)
      · refine gg_st (go_iconst d_X6_fits_62 ci_1 rfl) ?_
        refine gg_st (go_goto (pc' := 67) d_X6_fits_63 (by decide)) ?_
        exact gg_zret (Or.inr rfl) rfl d_X6_fits_67 rfl
      · refine gg_st (go_iconst d_X6_fits_66 ci_0 rfl) ?_
        exact gg_zret (Or.inl rfl) rfl d_X6_fits_67 rfl
def f_X6_agentsFit_L34 (F : Nat) (c1 : Int32) (c2 : Int32) (k0 : St → Option (Int32 × St)) : Nat → Int32 → St → Option (Int32 × St)
  | 0, _, _ => none
  | n + 1, v5, g =>
    if v5 < c2 then (
      Option.bind (f_X1_kindOf c1 g) fun x7 =>
      Option.bind (f_X3_sortOf (15) x7 v5 g) fun x8 =>
      Option.bind (some (f_X11_portCode c1 v5)) fun x9 =>
      Option.bind (f_X1_farCode F x9 g) fun x10 =>
      Option.bind (f_X6_fits x8 x10.1 x10.2) fun x11 =>
      if x11 = 0 then (
        some ((0 : Int32), x10.2))
      else (
        f_X6_agentsFit_L34 F c1 c2 k0 n (v5 + (1 : Int32)) x10.2))
    else (
      k0 g)
def f_X6_agentsFit_L2 (F : Nat) : Nat → Int32 → St → Option (Int32 × St)
  | 0, _, _ => none
  | n + 1, v1, g =>
    if v1 < (g.1 (2) 5) then (
      Option.bind (f_X1_kindOf v1 g) fun x3 =>
      Option.bind (f_X3_portsOf (15) x3 g) fun x4 =>
      f_X6_agentsFit_L34 F v1 x4
        (fun (t13 : St) =>
          f_X6_agentsFit_L2 F n (v1 + (1 : Int32)) t13) F (0 : Int32) g)
    else (
      some ((1 : Int32), g))
def f_X6_agentsFit (F : Nat) (σ : St) : Option (Int32 × St) :=
  f_X6_agentsFit_L2 F F (0 : Int32) σ
set_option maxRecDepth 20000 in
theorem g_f_X6_agentsFit_L34 (l : Launch) (w : Wo) (F : Nat) (c1 : Int32) (c2 : Int32) (k0 : St → Option (Int32 × St)) (hk0 : ∀ t, GG l w shC m_X6_agentsFit 4 85 [some (.ref (1)), some (.int c1), none, none] [] t (k0 t) (fun q => .inr ((rIS) q))) : ∀ (n : Nat) (v5 : Int32) (g : St), GG l w shC m_X6_agentsFit 4 34 [some (.ref (1)), some (.int c1), some (.int c2), some (.int v5)] [] g (f_X6_agentsFit_L34 F c1 c2 k0 n v5 g) (fun q => .inr ((rIS) q)) := by
  intro n
  induction n with
  | zero =>
    intro v5 g
    exact gg_none
  | succ n ih =>
    intro v5 g
    rw [f_X6_agentsFit_L34]
    refine gg_st (go_iload_n 3 d_X6_agentsFit_34 rfl rfl rfl) ?_
    refine gg_st (go_iload_n 2 d_X6_agentsFit_35 rfl rfl rfl) ?_
    refine gg_br (br_icmp_ge (tgt := 85) (pc' := 39) d_X6_agentsFit_36 (by decide) rfl) (fun h6 => ?_) (fun h6 => ?_)
    · refine gg_st (go_aload_n 0 d_X6_agentsFit_39 rfl rfl rfl) ?_
      refine gg_st (go_aload_n 0 d_X6_agentsFit_40 rfl rfl rfl) ?_
      refine gg_st (go_getR (j := 6) cf6 sC_1 rfl (by decide) fl_X6_32 d_X6_agentsFit_41 rfl) ?_
      refine gg_st (go_getR (j := 0) cf0 sC_14 rfl (by decide) fl_X6_91 d_X6_agentsFit_44 rfl) ?_
      refine gg_st (go_aload_n 0 d_X6_agentsFit_47 rfl rfl rfl) ?_
      refine gg_st (go_getR (j := 0) cf6 sC_1 rfl (by decide) fl_X6_12 d_X6_agentsFit_48 rfl) ?_
      refine gg_st (go_iload_n 1 d_X6_agentsFit_51 rfl rfl rfl) ?_
      refine gv_I (k_X1_kindOf l w c1 g) cv_X6_222 sC_2 (Nat.le_of_ble_eq_true rfl) rfl rfl (Nat.le_of_ble_eq_true rfl) d_X6_agentsFit_52 rfl (fun x7 => ?_)
      refine gg_st (go_iload_n 3 d_X6_agentsFit_55 rfl rfl rfl) ?_
      refine gv_I (k_X3_sortOf l w (show 15 ∈ st15_65 by decide) x7 v5 g) cv_X6_225 sC_15 (Nat.le_of_ble_eq_true rfl) rfl rfl (Nat.le_of_ble_eq_true rfl) d_X6_agentsFit_56 rfl (fun x8 => ?_)
      refine gg_st (go_aload_n 0 d_X6_agentsFit_59 rfl rfl rfl) ?_
      refine gg_st (go_getR (j := 0) cf6 sC_1 rfl (by decide) fl_X6_12 d_X6_agentsFit_60 rfl) ?_
      refine gg_st (go_iload_n 1 d_X6_agentsFit_63 rfl rfl rfl) ?_
      refine gg_st (go_iload_n 3 d_X6_agentsFit_64 rfl rfl rfl) ?_
      refine gs_I (k_X11_portCode l w c1 v5 g) cs_X6_186 (Nat.le_of_ble_eq_true rfl) rfl rfl (Nat.le_of_ble_eq_true rfl) d_X6_agentsFit_65 rfl (fun x9 => ?_)
      refine gv_IS (k_X1_farCode l w F x9 g) cv_X6_228 sC_2 (Nat.le_of_ble_eq_true rfl) rfl rfl (Nat.le_of_ble_eq_true rfl) d_X6_agentsFit_68 rfl (fun x10 => ?_)
      refine gv_I (k_X6_fits l w x8 x10.1 x10.2) cv_X6_231 sC_1 (Nat.le_of_ble_eq_true rfl) rfl rfl (Nat.le_of_ble_eq_true rfl) d_X6_agentsFit_71 rfl (fun x11 => ?_)
      refine gg_br (br_if_ne (tgt := 79) (pc' := 77) d_X6_agentsFit_74 (by decide) rfl) (fun h12 => ?_) (fun h12 => ?_)
      · refine gg_st (go_iconst d_X6_agentsFit_77 ci_0 rfl) ?_
        exact gg_zret (Or.inl rfl) rfl d_X6_agentsFit_78 rfl
      · refine gg_st (go_iinc 3 d_X6_agentsFit_79 rfl (v := v5 + (1 : Int32)) (by rw [ci_1]) (by decide) (L' := [some (.ref (1)), some (.int c1), some (.int c2), some (.int (v5 + (1 : Int32)))]) rfl rfl) ?_
        refine gg_st (go_goto (pc' := 34) d_X6_agentsFit_82 (by decide)) ?_
        exact ih (v5 + (1 : Int32)) x10.2
    · refine gg_st (go_fg [some (.ref (1)), some (.int c1), none, none] ⟨rfl, ⟨rfl, trivial⟩⟩) ?_
      exact hk0 g
set_option maxRecDepth 20000 in
theorem g_f_X6_agentsFit_L2 (l : Launch) (w : Wo) (F : Nat) : ∀ (n : Nat) (v1 : Int32) (g : St), GG l w shC m_X6_agentsFit 4 2 [some (.ref (1)), some (.int v1), none, none] [] g (f_X6_agentsFit_L2 F n v1 g) (fun q => .inr ((rIS) q)) := by
  intro n
  induction n with
  | zero =>
    intro v1 g
    exact gg_none
  | succ n ih =>
    intro v1 g
    rw [f_X6_agentsFit_L2]
    refine gg_st (go_iload_n 1 d_X6_agentsFit_2 rfl rfl rfl) ?_
    refine gg_st (go_aload_n 0 d_X6_agentsFit_3 rfl rfl rfl) ?_
    refine gg_st (go_getR (j := 0) cf6 sC_1 rfl (by decide) fl_X6_12 d_X6_agentsFit_4 rfl) ?_
    refine gg_st (go_getI (j := 5) cf1 sC_2 rfl (by decide) fl_X6_176 d_X6_agentsFit_7 rfl) ?_
    refine gg_br (br_icmp_ge (tgt := 91) (pc' := 13) d_X6_agentsFit_10 (by decide) rfl) (fun h2 => ?_) (fun h2 => ?_)
    · refine gg_st (go_aload_n 0 d_X6_agentsFit_13 rfl rfl rfl) ?_
      refine gg_st (go_getR (j := 6) cf6 sC_1 rfl (by decide) fl_X6_32 d_X6_agentsFit_14 rfl) ?_
      refine gg_st (go_getR (j := 0) cf0 sC_14 rfl (by decide) fl_X6_91 d_X6_agentsFit_17 rfl) ?_
      refine gg_st (go_aload_n 0 d_X6_agentsFit_20 rfl rfl rfl) ?_
      refine gg_st (go_getR (j := 0) cf6 sC_1 rfl (by decide) fl_X6_12 d_X6_agentsFit_21 rfl) ?_
      refine gg_st (go_iload_n 1 d_X6_agentsFit_24 rfl rfl rfl) ?_
      refine gv_I (k_X1_kindOf l w v1 g) cv_X6_222 sC_2 (Nat.le_of_ble_eq_true rfl) rfl rfl (Nat.le_of_ble_eq_true rfl) d_X6_agentsFit_25 rfl (fun x3 => ?_)
      refine gv_I (k_X3_portsOf l w (show 15 ∈ st15_65 by decide) x3 g) cv_X6_167 sC_15 (Nat.le_of_ble_eq_true rfl) rfl rfl (Nat.le_of_ble_eq_true rfl) d_X6_agentsFit_28 rfl (fun x4 => ?_)
      refine gg_st (go_istore_n 2 d_X6_agentsFit_31 rfl (by decide) (L' := [some (.ref (1)), some (.int v1), some (.int x4), none]) rfl rfl) ?_
      refine gg_st (go_iconst d_X6_agentsFit_32 ci_0 rfl) ?_
      refine gg_st (go_istore_n 3 d_X6_agentsFit_33 rfl (by decide) (L' := [some (.ref (1)), some (.int v1), some (.int x4), some (.int (0 : Int32))]) rfl rfl) ?_
      refine g_f_X6_agentsFit_L34 l w F v1 x4 _ (fun t13 => ?_) F (0 : Int32) g
      refine gg_st (go_iinc 1 d_X6_agentsFit_85 rfl (v := v1 + (1 : Int32)) (by rw [ci_1]) (by decide) (L' := [some (.ref (1)), some (.int (v1 + (1 : Int32))), none, none]) rfl rfl) ?_
      refine gg_st (go_goto (pc' := 2) d_X6_agentsFit_88 (by decide)) ?_
      exact ih (v1 + (1 : Int32)) t13
    · refine gg_st (go_iconst d_X6_agentsFit_91 ci_1 rfl) ?_
      exact gg_zret (Or.inr rfl) rfl d_X6_agentsFit_92 rfl
set_option maxRecDepth 20000 in
theorem k_X6_agentsFit (l : Launch) (w : Wo) (F : Nat) (σ : St) : K l w shC m_X6_agentsFit 4 [.ref (1)] σ (f_X6_agentsFit F σ) (rIS) := by
  refine k_of (L := [some (.ref (1)), none, none, none]) (plainFor_of_name (by decide +kernel)) 3 rfl (Nat.le_of_ble_eq_true rfl) ?_
  unfold f_X6_agentsFit
  refine gg_st (go_iconst d_X6_agentsFit_0 ci_0 rfl) ?_
  refine gg_st (go_istore_n 1 d_X6_agentsFit_1 rfl (by decide) (L' := [some (.ref (1)), some (.int (0 : Int32)), none, none]) rfl rfl) ?_
  refine g_f_X6_agentsFit_L2 l w F  F (0 : Int32) σ
def f_X1_countRings_L4 (F : Nat) : Nat → Int32 → Int32 → St → Option (Int32 × St)
  | 0, _, _, _ => none
  | n + 1, v1, v2, g =>
    if (v2 < (g.1 (2) 6)) ∧ (v2 < (60 : Int32)) then (
      if inb v2 60 then (
        Option.bind (
          if (g.1 (7) (ix v2)) = 0 then (
            Option.bind (some (v1 + (1 : Int32))) fun x7 =>
            Option.bind (f_X1_farCode F ((1600 : Int32) + ((2 : Int32) * v2)) g) fun x8 =>
            some (x7, x8.2))
          else (
            some (v1, g))) fun t5 =>
        f_X1_countRings_L4 F n t5.1 (v2 + (1 : Int32)) t5.2)
      else none)
    else (
      some (v1, g))
def f_X1_countRings (F : Nat) (σ : St) : Option (Int32 × St) :=
  Option.bind (f_X1_countRings_L4 F F (0 : Int32) (0 : Int32) σ) fun t13 =>
  some (t13.1, t13.2)
set_option maxRecDepth 20000 in
theorem g_f_X1_countRings_L4 (l : Launch) (w : Wo) (F : Nat) : ∀ (n : Nat) (v1 : Int32) (v2 : Int32) (g : St), GG l w shC m_X1_countRings 3 4 [some (.ref (2)), some (.int v1), some (.int v2)] [] g (f_X1_countRings_L4 F n v1 v2 g) (fun (t : Int32 × St) => .inl (48, [none, some (.int t.1), none], [], t.2)) := by
  intro n
  induction n with
  | zero =>
    intro v1 v2 g
    exact gg_none
  | succ n ih =>
    intro v1 v2 g
    rw [f_X1_countRings_L4]
    refine gg_st (go_iload_n 2 d_X1_countRings_4 rfl rfl rfl) ?_
    refine gg_st (go_aload_n 0 d_X1_countRings_5 rfl rfl rfl) ?_
    refine gg_st (go_getI (j := 6) cf1 sC_2 rfl (by decide) fl_X1_39 d_X1_countRings_6 rfl) ?_
    refine gg_two (c := (v2 < (g.1 (2) 6)) ∧ (v2 < (60 : Int32))) (pA := 18) (pB := 48) (LL := [some (.ref (2)), some (.int v1), some (.int v2)]) (ss := []) ?_ ?_ (fun hA9 hB10 => ?_)
    · refine gg_st (go_aload_n 0 d_X1_countRings_18 rfl rfl rfl) ?_
      refine gg_st (go_getR (j := 4) cf1 sC_2 rfl (by decide) fl_X1_25 d_X1_countRings_19 rfl) ?_
      refine gg_st (go_iload_n 2 d_X1_countRings_22 rfl rfl rfl) ?_
      refine gg_gd (fun h4 => ?_)
      refine gg_st (go_zald sC_7 h4 d_X1_countRings_23 rfl) ?_
      refine gg_bind 42 (fun (t5 : Int32 × St) => [some (.ref (2)), some (.int t5.1), some (.int v2)]) (fun (t5 : Int32 × St) => []) (fun (t5 : Int32 × St) => t5.2) ?_ (fun t5 => ?_)
      · refine gg_br (br_if_ne (tgt := 42) (pc' := 27) d_X1_countRings_24 (by decide) rfl) (fun h6 => ?_) (fun h6 => ?_)
        · refine gg_st (go_iinc 1 d_X1_countRings_27 rfl (v := v1 + (1 : Int32)) (by rw [ci_1]) (by decide) (L' := [some (.ref (2)), some (.int (v1 + (1 : Int32))), some (.int v2)]) rfl rfl) ?_
          refine gg_nm (fun (x7 : Int32) => [some (.ref (2)), some (.int x7), some (.int v2)]) (fun _ => []) (fun x7 => ?_)
          refine gg_st (go_aload_n 0 d_X1_countRings_30 rfl rfl rfl) ?_
          refine gg_st (go_sipush d_X1_countRings_31 cs_1600 rfl) ?_
          refine gg_st (go_iconst d_X1_countRings_34 ci_2 rfl) ?_
          refine gg_st (go_iload_n 2 d_X1_countRings_35 rfl rfl rfl) ?_
          refine gg_st (go_imul d_X1_countRings_36 rfl) ?_
          refine gg_st (go_iadd d_X1_countRings_37 rfl) ?_
          refine gv_IS (k_X1_farCode l w F ((1600 : Int32) + ((2 : Int32) * v2)) g) cv_X1_67 sC_2 (Nat.le_of_ble_eq_true rfl) rfl rfl (Nat.le_of_ble_eq_true rfl) d_X1_countRings_38 rfl (fun x8 => ?_)
          refine gg_st (go_pop d_X1_countRings_41 rfl rfl) ?_
          exact gg_end rfl
        · exact gg_end rfl
      · refine gg_st (go_iinc 2 d_X1_countRings_42 rfl (v := v2 + (1 : Int32)) (by rw [ci_1]) (by decide) (L' := [some (.ref (2)), some (.int t5.1), some (.int (v2 + (1 : Int32)))]) rfl rfl) ?_
        refine gg_st (go_goto (pc' := 4) d_X1_countRings_45 (by decide)) ?_
        exact ih t5.1 (v2 + (1 : Int32)) t5.2
    · refine gg_st (go_fg [none, some (.int v1), none] ⟨rfl, trivial⟩) ?_
      exact gg_end rfl
    refine gg_brs (br_icmp_ge (tgt := 48) (pc' := 12) d_X1_countRings_9 (by decide) rfl) (fun h11 => ?_) (fun h11 => ?_)
    · refine gg_st (go_iload_n 2 d_X1_countRings_12 rfl rfl rfl) ?_
      refine gg_st (go_bipush d_X1_countRings_13 cb_60 rfl) ?_
      refine gg_brs (br_icmp_ge (tgt := 48) (pc' := 18) d_X1_countRings_15 (by decide) rfl) (fun h12 => ?_) (fun h12 => ?_)
      · exact gg_eq (if_pos ⟨h11, h12⟩) hA9
      · exact gg_eq (if_neg (fun z => h12 z.2)) hB10
    · exact gg_eq (if_neg (fun z => h11 z.1)) hB10
set_option maxRecDepth 20000 in
theorem k_X1_countRings (l : Launch) (w : Wo) (F : Nat) (σ : St) : K l w shC m_X1_countRings 3 [.ref (2)] σ (f_X1_countRings F σ) (rIS) := by
  refine k_of (L := [some (.ref (2)), none, none]) (plainFor_of_name (by decide +kernel)) 2 rfl (Nat.le_of_ble_eq_true rfl) ?_
  unfold f_X1_countRings
  refine gg_st (go_iconst d_X1_countRings_0 ci_0 rfl) ?_
  refine gg_st (go_istore_n 1 d_X1_countRings_1 rfl (by decide) (L' := [some (.ref (2)), some (.int (0 : Int32)), none]) rfl rfl) ?_
  refine gg_st (go_iconst d_X1_countRings_2 ci_0 rfl) ?_
  refine gg_st (go_istore_n 2 d_X1_countRings_3 rfl (by decide) (L' := [some (.ref (2)), some (.int (0 : Int32)), some (.int (0 : Int32))]) rfl rfl) ?_
  refine gg_bind 48 (fun (t13 : Int32 × St) => [none, some (.int t13.1), none]) (fun (t13 : Int32 × St) => []) (fun (t13 : Int32 × St) => t13.2) (g_f_X1_countRings_L4 l w F F (0 : Int32) (0 : Int32) σ) (fun t13 => ?_)
  refine gg_st (go_iload_n 1 d_X1_countRings_48 rfl rfl rfl) ?_
  exact gg_iret rfl d_X1_countRings_49 rfl
def f_X1_outerPoint (p1 : Int32) : Int32 :=
  if (f_X11_isInside p1 (8 : Int32)) = 0 then (
    (-1 : Int32))
  else (
    (1720 : Int32) + p1)
set_option maxRecDepth 20000 in
theorem k_X1_outerPoint (l : Launch) (w : Wo) (p1 : Int32) (σ : St) : K l w shC m_X1_outerPoint 2 [.int p1] σ (some (f_X1_outerPoint p1)) (rI σ) := by
  refine k_of (L := [some (.int p1)]) (plainFor_of_name (by decide +kernel)) 0 rfl (Nat.le_of_ble_eq_true rfl) ?_
  unfold f_X1_outerPoint
  refine gg_st (go_iload_n 0 d_X1_outerPoint_0 rfl rfl rfl) ?_
  refine gg_st (go_bipush d_X1_outerPoint_1 cb_8 rfl) ?_
  refine gg_st (go_sI (k_X11_isInside l w p1 (8 : Int32) σ) cs_X1_45 (Nat.le_of_ble_eq_true rfl) rfl rfl (Nat.le_of_ble_eq_true rfl) d_X1_outerPoint_3 rfl) ?_
  refine gg_brv (f := fun z => some z) (br_if_eq (tgt := 17) (pc' := 9) d_X1_outerPoint_6 (by decide) rfl) (fun h1 => ?_) (fun h1 => ?_)
  · refine gg_st (go_iconst d_X1_outerPoint_17 ci_m1 rfl) ?_
    exact gg_iret rfl d_X1_outerPoint_18 rfl
  · refine gg_st (go_sipush d_X1_outerPoint_9 cs_1720 rfl) ?_
    refine gg_st (go_iload_n 0 d_X1_outerPoint_12 rfl rfl rfl) ?_
    refine gg_st (go_iadd d_X1_outerPoint_13 rfl) ?_
    refine gg_st (go_goto (pc' := 18) d_X1_outerPoint_14 (by decide)) ?_
    exact gg_iret rfl d_X1_outerPoint_18 rfl
def f_X4_add_L6 (F : Nat) (a : Nat) (c1 : Int32) (σ : St) (k0 : Int32 → Option (Int32 × St)) : Nat → Int32 → Option (Int32 × St)
  | 0, _ => none
  | n + 1, v2 =>
    if v2 < (400 : Int32) then (
      if inb v2 400 then (
        if (σ.1 (a + 1) (ix v2)) = (-1 : Int32) then (
          k0 v2)
        else (
          f_X4_add_L6 F a c1 σ k0 n (v2 + (1 : Int32))))
      else none)
    else (
      some ((-1 : Int32), σ))
def f_X4_add (F : Nat) (a : Nat) (p1 : Int32) (p2 : Int32) (σ : St) : Option (Int32 × St) :=
  Option.bind (some (f_J9_max_7cf53 p2 (0 : Int32))) fun x1 =>
  f_X4_add_L6 F a p1 σ
    (fun (t7 : Int32) =>
      if inb t7 400 then (
        Option.bind (some (seti σ (a + 1) (ix t7) p1)) fun s9 =>
        Option.bind (some (seti s9 a 3 ((s9.1 a 3) + (1 : Int32)))) fun s10 =>
        Option.bind (some (f_J9_max_7cf53 (s10.1 a 6) (t7 + (1 : Int32)))) fun x11 =>
        Option.bind (some (seti s10 a 6 x11)) fun s12 =>
        some (t7, s12))
      else none) F x1
set_option maxRecDepth 20000 in
theorem g_f_X4_add_L6 (l : Launch) (w : Wo) (F : Nat) {a : Nat} (ha : a ∈ st27_77) (c1 : Int32) (σ : St) (k0 : Int32 → Option (Int32 × St)) (hk0 : ∀ t, GG l w shC m_X4_add 2 23 [some (.ref a), some (.int c1), none, some (.int t)] [] σ (k0 t) (fun q => .inr ((rIS) q))) : ∀ (n : Nat) (v2 : Int32), GG l w shC m_X4_add 2 6 [some (.ref a), some (.int c1), none, some (.int v2)] [] σ (f_X4_add_L6 F a c1 σ k0 n v2) (fun q => .inr ((rIS) q)) := by
  intro n
  induction n with
  | zero =>
    intro v2
    exact gg_none
  | succ n ih =>
    intro v2
    rw [f_X4_add_L6]
    refine gg_st (go_iload_n 3 d_X4_add_6 rfl rfl rfl) ?_
    refine gg_st (go_sipush d_X4_add_7 cs_400 rfl) ?_
    refine gg_br (br_icmp_ge (tgt := 62) (pc' := 13) d_X4_add_10 (by decide) rfl) (fun h4 => ?_) (fun h4 => ?_)
    · refine gg_st (go_aload_n 0 d_X4_add_13 rfl rfl rfl) ?_
      refine gg_st (go_getR (j := 0) cf4 (sC_st27_77_0 ha) rfl (by decide) fl_X4_9 d_X4_add_14 rfl) ?_
      refine gg_st (go_iload_n 3 d_X4_add_17 rfl rfl rfl) ?_
      refine gg_gd (fun h5 => ?_)
      refine gg_st (go_iald (sC_st27_77_1 ha) h5 d_X4_add_18 rfl) ?_
      refine gg_st (go_iconst d_X4_add_19 ci_m1 rfl) ?_
      refine gg_br (br_icmp_ne (tgt := 56) (pc' := 23) d_X4_add_20 (by decide) rfl) (fun h6 => ?_) (fun h6 => ?_)
      · exact hk0 v2
      · refine gg_st (go_iinc 3 d_X4_add_56 rfl (v := v2 + (1 : Int32)) (by rw [ci_1]) (by decide) (L' := [some (.ref a), some (.int c1), none, some (.int (v2 + (1 : Int32)))]) rfl rfl) ?_
        refine gg_st (go_goto (pc' := 6) d_X4_add_59 (by decide)) ?_
        exact ih (v2 + (1 : Int32))
    · refine gg_st (go_iconst d_X4_add_62 ci_m1 rfl) ?_
      exact gg_iret rfl d_X4_add_63 rfl
set_option maxRecDepth 20000 in
theorem k_X4_add (l : Launch) (w : Wo) (F : Nat) {a : Nat} (ha : a ∈ st27_77) (p1 : Int32) (p2 : Int32) (σ : St) : K l w shC m_X4_add 2 [.ref a, .int p1, .int p2] σ (f_X4_add F a p1 p2 σ) (rIS) := by
  refine k_of (L := [some (.ref a), some (.int p1), some (.int p2), none]) (plainFor_of_name (by decide +kernel)) 1 rfl (Nat.le_of_ble_eq_true rfl) ?_
  unfold f_X4_add
  refine gg_st (go_iload_n 2 d_X4_add_0 rfl rfl rfl) ?_
  refine gg_st (go_iconst d_X4_add_1 ci_0 rfl) ?_
  refine gs_I (k_J9_max_7cf53 l w p2 (0 : Int32) σ) cs_X4_50 (Nat.le_of_ble_eq_true rfl) rfl rfl (Nat.le_of_ble_eq_true rfl) d_X4_add_2 rfl (fun x1 => ?_)
  refine gg_st (go_istore_n 3 d_X4_add_5 rfl (by decide) (L' := [some (.ref a), some (.int p1), some (.int p2), some (.int x1)]) rfl rfl) ?_
  refine gg_st (go_fg [some (.ref a), some (.int p1), none, some (.int x1)] ⟨rfl, ⟨rfl, ⟨rfl, trivial⟩⟩⟩) ?_
  refine g_f_X4_add_L6 l w F ha p1 σ _ (fun t7 => ?_) F x1
  refine gg_st (go_aload_n 0 d_X4_add_23 rfl rfl rfl) ?_
  refine gg_st (go_getR (j := 0) cf4 (sC_st27_77_0 ha) rfl (by decide) fl_X4_9 d_X4_add_24 rfl) ?_
  refine gg_st (go_iload_n 3 d_X4_add_27 rfl rfl rfl) ?_
  refine gg_st (go_iload_n 1 d_X4_add_28 rfl rfl rfl) ?_
  refine gg_gd (fun h8 => ?_)
  refine gg_st (go_iast (sC_st27_77_1 ha) h8 d_X4_add_29 rfl) ?_
  refine gg_som (fun s9 => ?_)
  refine gg_st (go_aload_n 0 d_X4_add_30 rfl rfl rfl) ?_
  refine gg_st (go_dup d_X4_add_31 rfl rfl) ?_
  refine gg_st (go_getI (j := 3) cf4 (sC_st27_77_0 ha) rfl (by decide) fl_X4_27 d_X4_add_32 rfl) ?_
  refine gg_st (go_iconst d_X4_add_35 ci_1 rfl) ?_
  refine gg_st (go_iadd d_X4_add_36 rfl) ?_
  refine gg_st (go_putI (j := 3) cf4 (sC_st27_77_0 ha) rfl (by decide) rfl rfl fl_X4_27 d_X4_add_37 rfl) ?_
  refine gg_som (fun s10 => ?_)
  refine gg_st (go_aload_n 0 d_X4_add_40 rfl rfl rfl) ?_
  refine gg_st (go_aload_n 0 d_X4_add_41 rfl rfl rfl) ?_
  refine gg_st (go_getI (j := 6) cf4 (sC_st27_77_0 ha) rfl (by decide) fl_X4_37 d_X4_add_42 rfl) ?_
  refine gg_st (go_iload_n 3 d_X4_add_45 rfl rfl rfl) ?_
  refine gg_st (go_iconst d_X4_add_46 ci_1 rfl) ?_
  refine gg_st (go_iadd d_X4_add_47 rfl) ?_
  refine gs_I (k_J9_max_7cf53 l w (s10.1 a 6) (t7 + (1 : Int32)) s10) cs_X4_50 (Nat.le_of_ble_eq_true rfl) rfl rfl (Nat.le_of_ble_eq_true rfl) d_X4_add_48 rfl (fun x11 => ?_)
  refine gg_st (go_putI (j := 6) cf4 (sC_st27_77_0 ha) rfl (by decide) rfl rfl fl_X4_37 d_X4_add_51 rfl) ?_
  refine gg_som (fun s12 => ?_)
  refine gg_st (go_iload_n 3 d_X4_add_54 rfl rfl rfl) ?_
  exact gg_iret rfl d_X4_add_55 rfl
def f_X4_setWire (a : Nat) (p1 : Int32) (p2 : Int32) (σ : St) : Option (St) :=
  Option.bind (some (f_X11_isInside p1 (3200 : Int32))) fun x1 =>
  if x1 = 0 then (
    Option.bind (some (f_X11_endOf p1)) fun x7 =>
    Option.bind (some (f_X11_isInside x7 (8 : Int32))) fun x8 =>
    if x8 = 0 then (
      some σ)
    else (
      Option.bind (some (f_X11_endOf p1)) fun x12 =>
      if inb x12 8 then (
        Option.bind (some (seti σ (a + 3) (ix x12) p2)) fun s14 =>
        some s14)
      else none))
  else (
    if inb p1 3200 then (
      Option.bind (some (seti σ (a + 2) (ix p1) p2)) fun s16 =>
      some s16)
    else none)
set_option maxRecDepth 20000 in
theorem k_X4_setWire (l : Launch) (w : Wo) {a : Nat} (ha : a ∈ st27_77) (p1 : Int32) (p2 : Int32) (σ : St) : K l w shC m_X4_setWire 2 [.ref a, .int p1, .int p2] σ (f_X4_setWire a p1 p2 σ) (rV) := by
  refine k_of (L := [some (.ref a), some (.int p1), some (.int p2)]) (plainFor_of_name (by decide +kernel)) 0 rfl (Nat.le_of_ble_eq_true rfl) ?_
  unfold f_X4_setWire
  refine gg_st (go_iload_n 1 d_X4_setWire_0 rfl rfl rfl) ?_
  refine gg_st (go_aload_n 0 d_X4_setWire_1 rfl rfl rfl) ?_
  refine gg_st (go_getR (j := 1) cf4 (sC_st27_77_0 ha) rfl (by decide) fl_X4_15 d_X4_setWire_2 rfl) ?_
  refine gg_st (go_alen (sC_st27_77_2 ha) (v := (3200 : Int32)) (by decide) d_X4_setWire_5 rfl) ?_
  refine gs_I (k_X11_isInside l w p1 (3200 : Int32) σ) cs_X4_46 (Nat.le_of_ble_eq_true rfl) rfl rfl (Nat.le_of_ble_eq_true rfl) d_X4_setWire_6 rfl (fun x1 => ?_)
  refine gg_br (br_if_eq (tgt := 22) (pc' := 12) d_X4_setWire_9 (by decide) rfl) (fun h6 => ?_) (fun h6 => ?_)
  · refine gg_st (go_iload_n 1 d_X4_setWire_22 rfl rfl rfl) ?_
    refine gs_I (k_X11_endOf l w p1 σ) cs_X4_63 (Nat.le_of_ble_eq_true rfl) rfl rfl (Nat.le_of_ble_eq_true rfl) d_X4_setWire_23 rfl (fun x7 => ?_)
    refine gg_st (go_aload_n 0 d_X4_setWire_26 rfl rfl rfl) ?_
    refine gg_st (go_getR (j := 2) cf4 (sC_st27_77_0 ha) rfl (by decide) fl_X4_18 d_X4_setWire_27 rfl) ?_
    refine gg_st (go_alen (sC_st27_77_3 ha) (v := (8 : Int32)) (by decide) d_X4_setWire_30 rfl) ?_
    refine gs_I (k_X11_isInside l w x7 (8 : Int32) σ) cs_X4_46 (Nat.le_of_ble_eq_true rfl) rfl rfl (Nat.le_of_ble_eq_true rfl) d_X4_setWire_31 rfl (fun x8 => ?_)
    refine gg_br (br_if_eq (tgt := 47) (pc' := 37) d_X4_setWire_34 (by decide) rfl) (fun h11 => ?_) (fun h11 => ?_)
    · exact gg_vret rfl d_X4_setWire_47 rfl
    · refine gg_st (go_aload_n 0 d_X4_setWire_37 rfl rfl rfl) ?_
      refine gg_st (go_getR (j := 2) cf4 (sC_st27_77_0 ha) rfl (by decide) fl_X4_18 d_X4_setWire_38 rfl) ?_
      refine gg_st (go_iload_n 1 d_X4_setWire_41 rfl rfl rfl) ?_
      refine gs_I (k_X11_endOf l w p1 σ) cs_X4_63 (Nat.le_of_ble_eq_true rfl) rfl rfl (Nat.le_of_ble_eq_true rfl) d_X4_setWire_42 rfl (fun x12 => ?_)
      refine gg_st (go_iload_n 2 d_X4_setWire_45 rfl rfl rfl) ?_
      refine gg_gd (fun h13 => ?_)
      refine gg_st (go_iast (sC_st27_77_3 ha) h13 d_X4_setWire_46 rfl) ?_
      refine gg_som (fun s14 => ?_)
      exact gg_vret rfl d_X4_setWire_47 rfl
  · refine gg_st (go_aload_n 0 d_X4_setWire_12 rfl rfl rfl) ?_
    refine gg_st (go_getR (j := 1) cf4 (sC_st27_77_0 ha) rfl (by decide) fl_X4_15 d_X4_setWire_13 rfl) ?_
    refine gg_st (go_iload_n 1 d_X4_setWire_16 rfl rfl rfl) ?_
    refine gg_st (go_iload_n 2 d_X4_setWire_17 rfl rfl rfl) ?_
    refine gg_gd (fun h15 => ?_)
    refine gg_st (go_iast (sC_st27_77_2 ha) h15 d_X4_setWire_18 rfl) ?_
    refine gg_som (fun s16 => ?_)
    refine gg_st (go_goto (pc' := 47) d_X4_setWire_19 (by decide)) ?_
    exact gg_vret rfl d_X4_setWire_47 rfl
def f_X6_storeNet_L57 (F : Nat) (c2 : Int32) (c3 : Int32) : Nat → Int32 → St → Option (St)
  | 0, _, _ => none
  | n + 1, v7, g =>
    if v7 < c3 then (
      Option.bind (some (f_X11_portCode c2 v7)) fun x9 =>
      Option.bind (some (f_X11_portCode c2 v7)) fun x10 =>
      Option.bind (f_X1_farCode F x10 g) fun x11 =>
      Option.bind (f_X4_setWire (27) x9 x11.1 x11.2) fun s12 =>
      f_X6_storeNet_L57 F c2 c3 n (v7 + (1 : Int32)) s12)
    else (
      some g)
def f_X6_storeNet_L10 (F : Nat) : Nat → Int32 → St → Option (St)
  | 0, _, _ => none
  | n + 1, v1, g =>
    if v1 < (g.1 (2) 5) then (
      Option.bind (f_X1_kindOf v1 g) fun x3 =>
      Option.bind (f_X4_add F (27) x3 v1 g) fun x4 =>
      Option.bind (f_X1_kindOf v1 x4.2) fun x5 =>
      Option.bind (f_X3_portsOf (15) x5 x4.2) fun x6 =>
      Option.bind (f_X6_storeNet_L57 F v1 x6 F (0 : Int32) x4.2) fun t13 =>
      f_X6_storeNet_L10 F n (v1 + (1 : Int32)) t13)
    else (
      some g)
def f_X6_storeNet_L111 (F : Nat) : Nat → Int32 → St → Option (St)
  | 0, _, _ => none
  | n + 1, v16, g =>
    if v16 < (g.1 (2) 7) then (
      Option.bind (some (f_X11_endCode v16)) fun x18 =>
      Option.bind (some (f_X1_outerPoint v16)) fun x19 =>
      Option.bind (f_X1_farCode F x19 g) fun x20 =>
      Option.bind (f_X4_setWire (27) x18 x20.1 x20.2) fun s21 =>
      f_X6_storeNet_L111 F n (v16 + (1 : Int32)) s21)
    else (
      some g)
def f_X6_storeNet (F : Nat) (σ : St) : Option (St) :=
  Option.bind (f_X6_storeNet_L10 F F (0 : Int32) σ) fun t14 =>
  Option.bind (some (seti t14 (27) 4 (t14.1 (2) 7))) fun s15 =>
  Option.bind (f_X6_storeNet_L111 F F (0 : Int32) s15) fun t22 =>
  Option.bind (f_X1_countRings F t22) fun x23 =>
  Option.bind (some (seti x23.2 (27) 5 x23.1)) fun s24 =>
  some s24
set_option maxRecDepth 20000 in
theorem g_f_X6_storeNet_L57 (l : Launch) (w : Wo) (F : Nat) (c2 : Int32) (c3 : Int32) : ∀ (n : Nat) (v7 : Int32) (g : St), GG l w shC m_X6_storeNet 4 57 [some (.ref (1)), some (.ref (27)), some (.int c2), some (.int c3), some (.int v7)] [] g (f_X6_storeNet_L57 F c2 c3 n v7 g) (fun (t : St) => .inl (92, [some (.ref (1)), some (.ref (27)), some (.int c2), none, none], [], t)) := by
  intro n
  induction n with
  | zero =>
    intro v7 g
    exact gg_none
  | succ n ih =>
    intro v7 g
    rw [f_X6_storeNet_L57]
    refine gg_st (go_iload 4 d_X6_storeNet_57 rfl rfl) ?_
    refine gg_st (go_iload_n 3 d_X6_storeNet_59 rfl rfl rfl) ?_
    refine gg_br (br_icmp_ge (tgt := 92) (pc' := 63) d_X6_storeNet_60 (by decide) rfl) (fun h8 => ?_) (fun h8 => ?_)
    · refine gg_st (go_aload_n 1 d_X6_storeNet_63 rfl rfl rfl) ?_
      refine gg_st (go_iload_n 2 d_X6_storeNet_64 rfl rfl rfl) ?_
      refine gg_st (go_iload 4 d_X6_storeNet_65 rfl rfl) ?_
      refine gs_I (k_X11_portCode l w c2 v7 g) cs_X6_186 (Nat.le_of_ble_eq_true rfl) rfl rfl (Nat.le_of_ble_eq_true rfl) d_X6_storeNet_67 rfl (fun x9 => ?_)
      refine gg_st (go_aload_n 0 d_X6_storeNet_70 rfl rfl rfl) ?_
      refine gg_st (go_getR (j := 0) cf6 sC_1 rfl (by decide) fl_X6_12 d_X6_storeNet_71 rfl) ?_
      refine gg_st (go_iload_n 2 d_X6_storeNet_74 rfl rfl rfl) ?_
      refine gg_st (go_iload 4 d_X6_storeNet_75 rfl rfl) ?_
      refine gs_I (k_X11_portCode l w c2 v7 g) cs_X6_186 (Nat.le_of_ble_eq_true rfl) rfl rfl (Nat.le_of_ble_eq_true rfl) d_X6_storeNet_77 rfl (fun x10 => ?_)
      refine gv_IS (k_X1_farCode l w F x10 g) cv_X6_228 sC_2 (Nat.le_of_ble_eq_true rfl) rfl rfl (Nat.le_of_ble_eq_true rfl) d_X6_storeNet_80 rfl (fun x11 => ?_)
      refine gv_V (k_X4_setWire l w (show 27 ∈ st27_77 by decide) x9 x11.1 x11.2) cv_X6_281 sC_27 (Nat.le_of_ble_eq_true rfl) rfl rfl (Nat.le_of_ble_eq_true rfl) d_X6_storeNet_83 rfl (fun s12 => ?_)
      refine gg_st (go_iinc 4 d_X6_storeNet_86 rfl (v := v7 + (1 : Int32)) (by rw [ci_1]) (by decide) (L' := [some (.ref (1)), some (.ref (27)), some (.int c2), some (.int c3), some (.int (v7 + (1 : Int32)))]) rfl rfl) ?_
      refine gg_st (go_goto (pc' := 57) d_X6_storeNet_89 (by decide)) ?_
      exact ih (v7 + (1 : Int32)) s12
    · refine gg_st (go_fg [some (.ref (1)), some (.ref (27)), some (.int c2), none, none] ⟨rfl, ⟨rfl, ⟨rfl, trivial⟩⟩⟩) ?_
      exact gg_end rfl
set_option maxRecDepth 20000 in
theorem g_f_X6_storeNet_L10 (l : Launch) (w : Wo) (F : Nat) : ∀ (n : Nat) (v1 : Int32) (g : St), GG l w shC m_X6_storeNet 4 10 [some (.ref (1)), some (.ref (27)), some (.int v1), none, none] [] g (f_X6_storeNet_L10 F n v1 g) (fun (t : St) => .inl (98, [some (.ref (1)), some (.ref (27)), none, none, none], [], t)) := by
  intro n
  induction n with
  | zero =>
    intro v1 g
    exact gg_none
  | succ n ih =>
    intro v1 g
    rw [f_X6_storeNet_L10]
    refine gg_st (go_iload_n 2 d_X6_storeNet_10 rfl rfl rfl) ?_
    refine gg_st (go_aload_n 0 d_X6_storeNet_11 rfl rfl rfl) ?_
    refine gg_st (go_getR (j := 0) cf6 sC_1 rfl (by decide) fl_X6_12 d_X6_storeNet_12 rfl) ?_
    refine gg_st (go_getI (j := 5) cf1 sC_2 rfl (by decide) fl_X6_176 d_X6_storeNet_15 rfl) ?_
    refine gg_br (br_icmp_ge (tgt := 98) (pc' := 21) d_X6_storeNet_18 (by decide) rfl) (fun h2 => ?_) (fun h2 => ?_)
    · refine gg_st (go_aload_n 1 d_X6_storeNet_21 rfl rfl rfl) ?_
      refine gg_st (go_aload_n 0 d_X6_storeNet_22 rfl rfl rfl) ?_
      refine gg_st (go_getR (j := 0) cf6 sC_1 rfl (by decide) fl_X6_12 d_X6_storeNet_23 rfl) ?_
      refine gg_st (go_iload_n 2 d_X6_storeNet_26 rfl rfl rfl) ?_
      refine gv_I (k_X1_kindOf l w v1 g) cv_X6_222 sC_2 (Nat.le_of_ble_eq_true rfl) rfl rfl (Nat.le_of_ble_eq_true rfl) d_X6_storeNet_27 rfl (fun x3 => ?_)
      refine gg_st (go_iload_n 2 d_X6_storeNet_30 rfl rfl rfl) ?_
      refine gv_IS (k_X4_add l w F (show 27 ∈ st27_77 by decide) x3 v1 g) cv_X6_278 sC_27 (Nat.le_of_ble_eq_true rfl) rfl rfl (Nat.le_of_ble_eq_true rfl) d_X6_storeNet_31 rfl (fun x4 => ?_)
      refine gg_st (go_pop d_X6_storeNet_34 rfl rfl) ?_
      refine gg_st (go_aload_n 0 d_X6_storeNet_35 rfl rfl rfl) ?_
      refine gg_st (go_getR (j := 6) cf6 sC_1 rfl (by decide) fl_X6_32 d_X6_storeNet_36 rfl) ?_
      refine gg_st (go_getR (j := 0) cf0 sC_14 rfl (by decide) fl_X6_91 d_X6_storeNet_39 rfl) ?_
      refine gg_st (go_aload_n 0 d_X6_storeNet_42 rfl rfl rfl) ?_
      refine gg_st (go_getR (j := 0) cf6 sC_1 rfl (by decide) fl_X6_12 d_X6_storeNet_43 rfl) ?_
      refine gg_st (go_iload_n 2 d_X6_storeNet_46 rfl rfl rfl) ?_
      refine gv_I (k_X1_kindOf l w v1 x4.2) cv_X6_222 sC_2 (Nat.le_of_ble_eq_true rfl) rfl rfl (Nat.le_of_ble_eq_true rfl) d_X6_storeNet_47 rfl (fun x5 => ?_)
      refine gv_I (k_X3_portsOf l w (show 15 ∈ st15_65 by decide) x5 x4.2) cv_X6_167 sC_15 (Nat.le_of_ble_eq_true rfl) rfl rfl (Nat.le_of_ble_eq_true rfl) d_X6_storeNet_50 rfl (fun x6 => ?_)
      refine gg_st (go_istore_n 3 d_X6_storeNet_53 rfl (by decide) (L' := [some (.ref (1)), some (.ref (27)), some (.int v1), some (.int x6), none]) rfl rfl) ?_
      refine gg_st (go_iconst d_X6_storeNet_54 ci_0 rfl) ?_
      refine gg_st (go_istore 4 d_X6_storeNet_55 (by decide) (L' := [some (.ref (1)), some (.ref (27)), some (.int v1), some (.int x6), some (.int (0 : Int32))]) rfl rfl) ?_
      refine gg_bind 92 (fun (t13 : St) => [some (.ref (1)), some (.ref (27)), some (.int v1), none, none]) (fun (t13 : St) => []) (fun (t13 : St) => t13) (g_f_X6_storeNet_L57 l w F v1 x6 F (0 : Int32) x4.2) (fun t13 => ?_)
      refine gg_st (go_iinc 2 d_X6_storeNet_92 rfl (v := v1 + (1 : Int32)) (by rw [ci_1]) (by decide) (L' := [some (.ref (1)), some (.ref (27)), some (.int (v1 + (1 : Int32))), none, none]) rfl rfl) ?_
      refine gg_st (go_goto (pc' := 10) d_X6_storeNet_95 (by decide)) ?_
      exact ih (v1 + (1 : Int32)) t13
    · refine gg_st (go_fg [some (.ref (1)), some (.ref (27)), none, none, none] ⟨rfl, ⟨rfl, trivial⟩⟩) ?_
      exact gg_end rfl
set_option maxRecDepth 20000 in
theorem g_f_X6_storeNet_L111 (l : Launch) (w : Wo) (F : Nat) : ∀ (n : Nat) (v16 : Int32) (g : St), GG l w shC m_X6_storeNet 4 111 [some (.ref (1)), some (.ref (27)), some (.int v16), none, none] [] g (f_X6_storeNet_L111 F n v16 g) (fun (t : St) => .inl (147, [some (.ref (1)), some (.ref (27)), none, none, none], [], t)) := by
  intro n
  induction n with
  | zero =>
    intro v16 g
    exact gg_none
  | succ n ih =>
    intro v16 g
    rw [f_X6_storeNet_L111]
    refine gg_st (go_iload_n 2 d_X6_storeNet_111 rfl rfl rfl) ?_
    refine gg_st (go_aload_n 0 d_X6_storeNet_112 rfl rfl rfl) ?_
    refine gg_st (go_getR (j := 0) cf6 sC_1 rfl (by decide) fl_X6_12 d_X6_storeNet_113 rfl) ?_
    refine gg_st (go_getI (j := 7) cf1 sC_2 rfl (by decide) fl_X6_216 d_X6_storeNet_116 rfl) ?_
    refine gg_br (br_icmp_ge (tgt := 147) (pc' := 122) d_X6_storeNet_119 (by decide) rfl) (fun h17 => ?_) (fun h17 => ?_)
    · refine gg_st (go_aload_n 1 d_X6_storeNet_122 rfl rfl rfl) ?_
      refine gg_st (go_iload_n 2 d_X6_storeNet_123 rfl rfl rfl) ?_
      refine gs_I (k_X11_endCode l w v16 g) cs_X6_264 (Nat.le_of_ble_eq_true rfl) rfl rfl (Nat.le_of_ble_eq_true rfl) d_X6_storeNet_124 rfl (fun x18 => ?_)
      refine gg_st (go_aload_n 0 d_X6_storeNet_127 rfl rfl rfl) ?_
      refine gg_st (go_getR (j := 0) cf6 sC_1 rfl (by decide) fl_X6_12 d_X6_storeNet_128 rfl) ?_
      refine gg_st (go_iload_n 2 d_X6_storeNet_131 rfl rfl rfl) ?_
      refine gs_I (k_X1_outerPoint l w v16 g) cs_X6_160 (Nat.le_of_ble_eq_true rfl) rfl rfl (Nat.le_of_ble_eq_true rfl) d_X6_storeNet_132 rfl (fun x19 => ?_)
      refine gv_IS (k_X1_farCode l w F x19 g) cv_X6_228 sC_2 (Nat.le_of_ble_eq_true rfl) rfl rfl (Nat.le_of_ble_eq_true rfl) d_X6_storeNet_135 rfl (fun x20 => ?_)
      refine gv_V (k_X4_setWire l w (show 27 ∈ st27_77 by decide) x18 x20.1 x20.2) cv_X6_281 sC_27 (Nat.le_of_ble_eq_true rfl) rfl rfl (Nat.le_of_ble_eq_true rfl) d_X6_storeNet_138 rfl (fun s21 => ?_)
      refine gg_st (go_iinc 2 d_X6_storeNet_141 rfl (v := v16 + (1 : Int32)) (by rw [ci_1]) (by decide) (L' := [some (.ref (1)), some (.ref (27)), some (.int (v16 + (1 : Int32))), none, none]) rfl rfl) ?_
      refine gg_st (go_goto (pc' := 111) d_X6_storeNet_144 (by decide)) ?_
      exact ih (v16 + (1 : Int32)) s21
    · refine gg_st (go_fg [some (.ref (1)), some (.ref (27)), none, none, none] ⟨rfl, ⟨rfl, trivial⟩⟩) ?_
      exact gg_end rfl
set_option maxRecDepth 20000 in
theorem k_X6_storeNet (l : Launch) (w : Wo) (F : Nat) (σ : St) : K l w shC m_X6_storeNet 4 [.ref (1)] σ (f_X6_storeNet F σ) (rV) := by
  refine k_of (L := [some (.ref (1)), none, none, none, none]) (plainFor_of_name (by decide +kernel)) 4 rfl (Nat.le_of_ble_eq_true rfl) ?_
  unfold f_X6_storeNet
  refine gg_st (go_aload_n 0 d_X6_storeNet_0 rfl rfl rfl) ?_
  refine gg_st (go_getR (j := 6) cf6 sC_1 rfl (by decide) fl_X6_32 d_X6_storeNet_1 rfl) ?_
  refine gg_st (go_getR (j := 2) cf0 sC_14 rfl (by decide) fl_X6_274 d_X6_storeNet_4 rfl) ?_
  refine gg_st (go_astore_n 1 d_X6_storeNet_7 rfl (by decide) (L' := [some (.ref (1)), some (.ref (27)), none, none, none]) rfl rfl) ?_
  refine gg_st (go_iconst d_X6_storeNet_8 ci_0 rfl) ?_
  refine gg_st (go_istore_n 2 d_X6_storeNet_9 rfl (by decide) (L' := [some (.ref (1)), some (.ref (27)), some (.int (0 : Int32)), none, none]) rfl rfl) ?_
  refine gg_bind 98 (fun (t14 : St) => [some (.ref (1)), some (.ref (27)), none, none, none]) (fun (t14 : St) => []) (fun (t14 : St) => t14) (g_f_X6_storeNet_L10 l w F F (0 : Int32) σ) (fun t14 => ?_)
  refine gg_st (go_aload_n 1 d_X6_storeNet_98 rfl rfl rfl) ?_
  refine gg_st (go_aload_n 0 d_X6_storeNet_99 rfl rfl rfl) ?_
  refine gg_st (go_getR (j := 0) cf6 sC_1 rfl (by decide) fl_X6_12 d_X6_storeNet_100 rfl) ?_
  refine gg_st (go_getI (j := 7) cf1 sC_2 rfl (by decide) fl_X6_216 d_X6_storeNet_103 rfl) ?_
  refine gg_st (go_putI (j := 4) cf4 sC_27 rfl (by decide) rfl rfl fl_X6_283 d_X6_storeNet_106 rfl) ?_
  refine gg_som (fun s15 => ?_)
  refine gg_st (go_iconst d_X6_storeNet_109 ci_0 rfl) ?_
  refine gg_st (go_istore_n 2 d_X6_storeNet_110 rfl (by decide) (L' := [some (.ref (1)), some (.ref (27)), some (.int (0 : Int32)), none, none]) rfl rfl) ?_
  refine gg_bind 147 (fun (t22 : St) => [some (.ref (1)), some (.ref (27)), none, none, none]) (fun (t22 : St) => []) (fun (t22 : St) => t22) (g_f_X6_storeNet_L111 l w F F (0 : Int32) s15) (fun t22 => ?_)
  refine gg_st (go_aload_n 1 d_X6_storeNet_147 rfl rfl rfl) ?_
  refine gg_st (go_aload_n 0 d_X6_storeNet_148 rfl rfl rfl) ?_
  refine gg_st (go_getR (j := 0) cf6 sC_1 rfl (by decide) fl_X6_12 d_X6_storeNet_149 rfl) ?_
  refine gv_IS (k_X1_countRings l w F  t22) cv_X6_267 sC_2 (Nat.le_of_ble_eq_true rfl) rfl rfl (Nat.le_of_ble_eq_true rfl) d_X6_storeNet_152 rfl (fun x23 => ?_)
  refine gg_st (go_putI (j := 5) cf4 sC_27 rfl (by decide) rfl rfl fl_X6_284 d_X6_storeNet_155 rfl) ?_
  refine gg_som (fun s24 => ?_)
  exact gg_vret rfl d_X6_storeNet_158 rfl
def f_X6_endNet (F : Nat) (σ : St) : Option (St) :=
  Option.bind (f_X1_addEnds F σ) fun s1 =>
  if (s1.1 (9) 7) = (59 : Int32) then (
    Option.bind (f_X1_hasNameStanding F (3 : Int32) (4000 : Int32) s1) fun x3 =>
    Option.bind (some (fun (t4 : St) =>
      Option.bind (f_X6_refuse (7 : Int32) t4) fun s6 =>
      some s6)) fun jp5 =>
    if (x3 = 0) ∧ ((s1.1 (2) 7) ≤ (8 : Int32)) then (
      Option.bind (f_X6_agentsFit F s1) fun x7 =>
      if x7.1 = 0 then (
        jp5 x7.2)
      else (
        Option.bind (f_X6_storeNet F x7.2) fun s9 =>
        Option.bind (f_X9_advance s9) fun s10 =>
        some s10))
    else (
      jp5 s1))
  else (
    Option.bind (f_X6_refuseToken s1) fun s15 =>
    some s15)
set_option maxRecDepth 20000 in
theorem k_X6_endNet (l : Launch) (w : Wo) (F : Nat) (σ : St) : K l w shC m_X6_endNet 5 [.ref (1)] σ (f_X6_endNet F σ) (rV) := by
  refine k_of (L := [some (.ref (1))]) (plainFor_of_name (by decide +kernel)) 0 rfl (Nat.le_of_ble_eq_true rfl) ?_
  unfold f_X6_endNet
  refine gg_st (go_aload_n 0 d_X6_endNet_0 rfl rfl rfl) ?_
  refine gg_st (go_getR (j := 0) cf6 sC_1 rfl (by decide) fl_X6_12 d_X6_endNet_1 rfl) ?_
  refine gv_V (k_X1_addEnds l w F  σ) cv_X6_213 sC_2 (Nat.le_of_ble_eq_true rfl) rfl rfl (Nat.le_of_ble_eq_true rfl) d_X6_endNet_4 rfl (fun s1 => ?_)
  refine gg_st (go_aload_n 0 d_X6_endNet_7 rfl rfl rfl) ?_
  refine gg_st (go_getR (j := 5) cf6 sC_1 rfl (by decide) fl_X6_25 d_X6_endNet_8 rfl) ?_
  refine gg_st (go_getI (j := 7) cf9 sC_9 rfl (by decide) fl_X6_53 d_X6_endNet_11 rfl) ?_
  refine gg_st (go_bipush d_X6_endNet_14 cb_59 rfl) ?_
  refine gg_br (br_icmp_eq (tgt := 26) (pc' := 19) d_X6_endNet_16 (by decide) rfl) (fun h2 => ?_) (fun h2 => ?_)
  · refine gg_st (go_aload_n 0 d_X6_endNet_26 rfl rfl rfl) ?_
    refine gg_st (go_getR (j := 0) cf6 sC_1 rfl (by decide) fl_X6_12 d_X6_endNet_27 rfl) ?_
    refine gg_st (go_iconst d_X6_endNet_30 ci_3 rfl) ?_
    refine gg_st (go_sipush d_X6_endNet_31 cs_4000 rfl) ?_
    refine gv_I (k_X1_hasNameStanding l w F (3 : Int32) (4000 : Int32) s1) cv_X6_198 sC_2 (Nat.le_of_ble_eq_true rfl) rfl rfl (Nat.le_of_ble_eq_true rfl) d_X6_endNet_34 rfl (fun x3 => ?_)
    refine gg_jp 59 (fun (t4 : St) => [some (.ref (1))]) (fun (t4 : St) => []) (fun (t4 : St) => t4) (fun t4 => ?_) (fun jp5 hjp5 => ?_)
    · refine gg_st (go_aload_n 0 d_X6_endNet_59 rfl rfl rfl) ?_
      refine gg_st (go_bipush d_X6_endNet_60 cb_7 rfl) ?_
      refine gv_V (k_X6_refuse l w (7 : Int32) t4) cv_X6_101 sC_1 (Nat.le_of_ble_eq_true rfl) rfl rfl (Nat.le_of_ble_eq_true rfl) d_X6_endNet_62 rfl (fun s6 => ?_)
      refine gg_st (go_goto (pc' := 79) d_X6_endNet_65 (by decide)) ?_
      exact gg_vret rfl d_X6_endNet_79 rfl
    refine gg_two (c := (x3 = 0) ∧ ((s1.1 (2) 7) ≤ (8 : Int32))) (pA := 52) (pB := 59) (LL := [some (.ref (1))]) (ss := []) ?_ ?_ (fun hA11 hB12 => ?_)
    · refine gg_st (go_aload_n 0 d_X6_endNet_52 rfl rfl rfl) ?_
      refine gv_IS (k_X6_agentsFit l w F  s1) cv_X6_202 sC_1 (Nat.le_of_ble_eq_true rfl) rfl rfl (Nat.le_of_ble_eq_true rfl) d_X6_endNet_53 rfl (fun x7 => ?_)
      refine gg_br (br_if_ne (tgt := 68) (pc' := 59) d_X6_endNet_56 (by decide) rfl) (fun h8 => ?_) (fun h8 => ?_)
      · exact hjp5 x7.2
      · refine gg_st (go_aload_n 0 d_X6_endNet_68 rfl rfl rfl) ?_
        refine gv_V (k_X6_storeNet l w F  x7.2) cv_X6_219 sC_1 (Nat.le_of_ble_eq_true rfl) rfl rfl (Nat.le_of_ble_eq_true rfl) d_X6_endNet_69 rfl (fun s9 => ?_)
        refine gg_st (go_aload_n 0 d_X6_endNet_72 rfl rfl rfl) ?_
        refine gg_st (go_getR (j := 5) cf6 sC_1 rfl (by decide) fl_X6_25 d_X6_endNet_73 rfl) ?_
        refine gv_V (k_X9_advance l w  s9) cv_X6_88 sC_9 (Nat.le_of_ble_eq_true rfl) rfl rfl (Nat.le_of_ble_eq_true rfl) d_X6_endNet_76 rfl (fun s10 => ?_)
        exact gg_vret rfl d_X6_endNet_79 rfl
    · exact hjp5 s1
    refine gg_brs (br_if_ne (tgt := 59) (pc' := 40) d_X6_endNet_37 (by decide) rfl) (fun h13 => ?_) (fun h13 => ?_)
    · refine gg_st (go_aload_n 0 d_X6_endNet_40 rfl rfl rfl) ?_
      refine gg_st (go_getR (j := 0) cf6 sC_1 rfl (by decide) fl_X6_12 d_X6_endNet_41 rfl) ?_
      refine gg_st (go_getI (j := 7) cf1 sC_2 rfl (by decide) fl_X6_216 d_X6_endNet_44 rfl) ?_
      refine gg_st (go_bipush d_X6_endNet_47 cb_8 rfl) ?_
      refine gg_brs (br_icmp_gt (tgt := 59) (pc' := 52) d_X6_endNet_49 (by decide) rfl) (fun h14 => ?_) (fun h14 => ?_)
      · exact gg_eq (if_pos ⟨h13, h14⟩) hA11
      · exact gg_eq (if_neg (fun z => h14 z.2)) hB12
    · exact gg_eq (if_neg (fun z => h13 z.1)) hB12
  · refine gg_st (go_aload_n 0 d_X6_endNet_19 rfl rfl rfl) ?_
    refine gv_V (k_X6_refuseToken l w  s1) cv_X6_75 sC_1 (Nat.le_of_ble_eq_true rfl) rfl rfl (Nat.le_of_ble_eq_true rfl) d_X6_endNet_20 rfl (fun s15 => ?_)
    refine gg_st (go_goto (pc' := 79) d_X6_endNet_23 (by decide)) ?_
    exact gg_vret rfl d_X6_endNet_79 rfl
def f_X1_addAgent (p1 : Int32) (σ : St) : Option (Int32 × St) :=
  Option.bind (
    if (σ.1 (2) 5) < (200 : Int32) then (
      if inb (σ.1 (2) 5) 200 then (
        Option.bind (some (seti σ (4) (ix (σ.1 (2) 5)) p1)) fun s6 =>
        Option.bind (some (seti s6 (2) 5 ((s6.1 (2) 5) + (1 : Int32)))) fun s7 =>
        some s7)
      else none)
    else (
      some σ)) fun t1 =>
  some ((t1.1 (2) 5) - (1 : Int32), t1)
set_option maxRecDepth 20000 in
theorem k_X1_addAgent (l : Launch) (w : Wo) (p1 : Int32) (σ : St) : K l w shC m_X1_addAgent 1 [.ref (2), .int p1] σ (f_X1_addAgent p1 σ) (rIS) := by
  refine k_of (L := [some (.ref (2)), some (.int p1)]) (plainFor_of_name (by decide +kernel)) 0 rfl (Nat.le_of_ble_eq_true rfl) ?_
  unfold f_X1_addAgent
  refine gg_st (go_aload_n 0 d_X1_addAgent_0 rfl rfl rfl) ?_
  refine gg_st (go_getI (j := 5) cf1 sC_2 rfl (by decide) fl_X1_35 d_X1_addAgent_1 rfl) ?_
  refine gg_st (go_sipush d_X1_addAgent_4 cs_200 rfl) ?_
  refine gg_bind 30 (fun (t1 : St) => [some (.ref (2)), none]) (fun (t1 : St) => []) (fun (t1 : St) => t1) ?_ (fun t1 => ?_)
  · refine gg_br (br_icmp_ge (tgt := 30) (pc' := 10) d_X1_addAgent_7 (by decide) rfl) (fun h4 => ?_) (fun h4 => ?_)
    · refine gg_st (go_aload_n 0 d_X1_addAgent_10 rfl rfl rfl) ?_
      refine gg_st (go_getR (j := 1) cf1 sC_2 rfl (by decide) fl_X1_15 d_X1_addAgent_11 rfl) ?_
      refine gg_st (go_aload_n 0 d_X1_addAgent_14 rfl rfl rfl) ?_
      refine gg_st (go_getI (j := 5) cf1 sC_2 rfl (by decide) fl_X1_35 d_X1_addAgent_15 rfl) ?_
      refine gg_st (go_iload_n 1 d_X1_addAgent_18 rfl rfl rfl) ?_
      refine gg_gd (fun h5 => ?_)
      refine gg_st (go_iast sC_4 h5 d_X1_addAgent_19 rfl) ?_
      refine gg_som (fun s6 => ?_)
      refine gg_st (go_aload_n 0 d_X1_addAgent_20 rfl rfl rfl) ?_
      refine gg_st (go_dup d_X1_addAgent_21 rfl rfl) ?_
      refine gg_st (go_getI (j := 5) cf1 sC_2 rfl (by decide) fl_X1_35 d_X1_addAgent_22 rfl) ?_
      refine gg_st (go_iconst d_X1_addAgent_25 ci_1 rfl) ?_
      refine gg_st (go_iadd d_X1_addAgent_26 rfl) ?_
      refine gg_st (go_putI (j := 5) cf1 sC_2 rfl (by decide) rfl rfl fl_X1_35 d_X1_addAgent_27 rfl) ?_
      refine gg_som (fun s7 => ?_)
      refine gg_st (go_fg [some (.ref (2)), none] ⟨rfl, trivial⟩) ?_
      exact gg_end rfl
    · refine gg_st (go_fg [some (.ref (2)), none] ⟨rfl, trivial⟩) ?_
      exact gg_end rfl
  · refine gg_st (go_aload_n 0 d_X1_addAgent_30 rfl rfl rfl) ?_
    refine gg_st (go_getI (j := 5) cf1 sC_2 rfl (by decide) fl_X1_35 d_X1_addAgent_31 rfl) ?_
    refine gg_st (go_iconst d_X1_addAgent_34 ci_1 rfl) ?_
    refine gg_st (go_isub d_X1_addAgent_35 rfl) ?_
    exact gg_iret rfl d_X1_addAgent_36 rfl
def f_X6_askBracket (p1 : Int32) (p2 : Int32) (p3 : Int32) (σ : St) : Option (St) :=
  if (σ.1 (1) 4) = 0 then (
    Option.bind (f_X3_portsOf (15) p1 σ) fun x2 =>
    if p2 = (x2 - (1 : Int32)) then (
      some σ)
    else (
      Option.bind (some (seti σ (1) 4 (5 : Int32))) fun s5 =>
      Option.bind (some (seti s5 (1) 7 p3)) fun s6 =>
      some s6))
  else (
    some σ)
set_option maxRecDepth 20000 in
theorem k_X6_askBracket (l : Launch) (w : Wo) (p1 : Int32) (p2 : Int32) (p3 : Int32) (σ : St) : K l w shC m_X6_askBracket 2 [.ref (1), .int p1, .int p2, .int p3] σ (f_X6_askBracket p1 p2 p3 σ) (rV) := by
  refine k_of (L := [some (.ref (1)), some (.int p1), some (.int p2), some (.int p3)]) (plainFor_of_name (by decide +kernel)) 0 rfl (Nat.le_of_ble_eq_true rfl) ?_
  unfold f_X6_askBracket
  refine gg_st (go_aload_n 0 d_X6_askBracket_0 rfl rfl rfl) ?_
  refine gg_st (go_getI (j := 4) cf6 sC_1 rfl (by decide) fl_X6_47 d_X6_askBracket_1 rfl) ?_
  refine gg_br (br_if_ne (tgt := 34) (pc' := 7) d_X6_askBracket_4 (by decide) rfl) (fun h1 => ?_) (fun h1 => ?_)
  · refine gg_st (go_iload_n 2 d_X6_askBracket_7 rfl rfl rfl) ?_
    refine gg_st (go_aload_n 0 d_X6_askBracket_8 rfl rfl rfl) ?_
    refine gg_st (go_getR (j := 6) cf6 sC_1 rfl (by decide) fl_X6_32 d_X6_askBracket_9 rfl) ?_
    refine gg_st (go_getR (j := 0) cf0 sC_14 rfl (by decide) fl_X6_91 d_X6_askBracket_12 rfl) ?_
    refine gg_st (go_iload_n 1 d_X6_askBracket_15 rfl rfl rfl) ?_
    refine gv_I (k_X3_portsOf l w (show 15 ∈ st15_65 by decide) p1 σ) cv_X6_167 sC_15 (Nat.le_of_ble_eq_true rfl) rfl rfl (Nat.le_of_ble_eq_true rfl) d_X6_askBracket_16 rfl (fun x2 => ?_)
    refine gg_st (go_iconst d_X6_askBracket_19 ci_1 rfl) ?_
    refine gg_st (go_isub d_X6_askBracket_20 rfl) ?_
    refine gg_br (br_icmp_eq (tgt := 34) (pc' := 24) d_X6_askBracket_21 (by decide) rfl) (fun h4 => ?_) (fun h4 => ?_)
    · exact gg_vret rfl d_X6_askBracket_34 rfl
    · refine gg_st (go_aload_n 0 d_X6_askBracket_24 rfl rfl rfl) ?_
      refine gg_st (go_iconst d_X6_askBracket_25 ci_5 rfl) ?_
      refine gg_st (go_putI (j := 4) cf6 sC_1 rfl (by decide) rfl rfl fl_X6_47 d_X6_askBracket_26 rfl) ?_
      refine gg_som (fun s5 => ?_)
      refine gg_st (go_aload_n 0 d_X6_askBracket_29 rfl rfl rfl) ?_
      refine gg_st (go_iload_n 3 d_X6_askBracket_30 rfl rfl rfl) ?_
      refine gg_st (go_putI (j := 7) cf6 sC_1 rfl (by decide) rfl rfl fl_X6_36 d_X6_askBracket_31 rfl) ?_
      refine gg_som (fun s6 => ?_)
      exact gg_vret rfl d_X6_askBracket_34 rfl
  · exact gg_vret rfl d_X6_askBracket_34 rfl
def f_X1_nameNumber_L2 (F : Nat) (c1 : Int64) (σ : St) (k0 : Unit → Option (Int32 × St)) : Nat → Int32 → Option (Int32 × St)
  | 0, _ => none
  | n + 1, v1 =>
    if (v1 < (σ.1 (2) 6)) ∧ (v1 < (60 : Int32)) then (
      if inb v1 60 then (
        if (lg_cmp (σ.2 (5) (ix v1)) c1) = 0 then (
          some (v1, σ))
        else (
          f_X1_nameNumber_L2 F c1 σ k0 n (v1 + (1 : Int32))))
      else none)
    else (
      k0 ())
def f_X1_nameNumber (F : Nat) (p1 : Int64) (σ : St) : Option (Int32 × St) :=
  f_X1_nameNumber_L2 F p1 σ
    (fun (t9 : Unit) =>
      if (60 : Int32) ≤ (σ.1 (2) 6) then (
        some ((-1 : Int32), σ))
      else (
        if inb (σ.1 (2) 6) 60 then (
          Option.bind (some (setl σ (5) (ix (σ.1 (2) 6)) p1)) fun s14 =>
          if inb (s14.1 (2) 6) 60 then (
            Option.bind (some (seti s14 (6) (ix (s14.1 (2) 6)) (0 : Int32))) fun s16 =>
            if inb (s16.1 (2) 6) 60 then (
              Option.bind (some (seti s16 (7) (ix (s16.1 (2) 6)) (0 : Int32))) fun s18 =>
              Option.bind (some (seti s18 (2) 6 ((s18.1 (2) 6) + (1 : Int32)))) fun s19 =>
              some ((s19.1 (2) 6) - (1 : Int32), s19))
            else none)
          else none)
        else none)) F (0 : Int32)
set_option maxRecDepth 20000 in
theorem g_f_X1_nameNumber_L2 (l : Launch) (w : Wo) (F : Nat) (c1 : Int64) (σ : St) (k0 : Unit → Option (Int32 × St)) (hk0 : ∀ t, GG l w shC m_X1_nameNumber 1 35 [some (.ref (2)), some (.long c1), none, none] [] σ (k0 t) (fun q => .inr ((rIS) q))) : ∀ (n : Nat) (v1 : Int32), GG l w shC m_X1_nameNumber 1 2 [some (.ref (2)), some (.long c1), none, some (.int v1)] [] σ (f_X1_nameNumber_L2 F c1 σ k0 n v1) (fun q => .inr ((rIS) q)) := by
  intro n
  induction n with
  | zero =>
    intro v1
    exact gg_none
  | succ n ih =>
    intro v1
    rw [f_X1_nameNumber_L2]
    refine gg_st (go_iload_n 3 d_X1_nameNumber_2 rfl rfl rfl) ?_
    refine gg_st (go_aload_n 0 d_X1_nameNumber_3 rfl rfl rfl) ?_
    refine gg_st (go_getI (j := 6) cf1 sC_2 rfl (by decide) fl_X1_39 d_X1_nameNumber_4 rfl) ?_
    refine gg_two (c := (v1 < (σ.1 (2) 6)) ∧ (v1 < (60 : Int32))) (pA := 16) (pB := 35) (LL := [some (.ref (2)), some (.long c1), none, some (.int v1)]) (ss := []) ?_ ?_ (fun hA5 hB6 => ?_)
    · refine gg_st (go_aload_n 0 d_X1_nameNumber_16 rfl rfl rfl) ?_
      refine gg_st (go_getR (j := 2) cf1 sC_2 rfl (by decide) fl_X1_18 d_X1_nameNumber_17 rfl) ?_
      refine gg_st (go_iload_n 3 d_X1_nameNumber_20 rfl rfl rfl) ?_
      refine gg_gd (fun h3 => ?_)
      refine gg_st (go_lald sC_5 h3 d_X1_nameNumber_21 rfl) ?_
      refine gg_st (go_lload_n 1 d_X1_nameNumber_22 rfl rfl rfl) ?_
      refine gg_st (go_lcmp d_X1_nameNumber_23 rfl) ?_
      refine gg_br (br_if_ne (tgt := 29) (pc' := 27) d_X1_nameNumber_24 (by decide) rfl) (fun h4 => ?_) (fun h4 => ?_)
      · refine gg_st (go_iload_n 3 d_X1_nameNumber_27 rfl rfl rfl) ?_
        exact gg_iret rfl d_X1_nameNumber_28 rfl
      · refine gg_st (go_iinc 3 d_X1_nameNumber_29 rfl (v := v1 + (1 : Int32)) (by rw [ci_1]) (by decide) (L' := [some (.ref (2)), some (.long c1), none, some (.int (v1 + (1 : Int32)))]) rfl rfl) ?_
        refine gg_st (go_goto (pc' := 2) d_X1_nameNumber_32 (by decide)) ?_
        exact ih (v1 + (1 : Int32))
    · refine gg_st (go_fg [some (.ref (2)), some (.long c1), none, none] ⟨rfl, ⟨rfl, trivial⟩⟩) ?_
      exact hk0 ()
    refine gg_brs (br_icmp_ge (tgt := 35) (pc' := 10) d_X1_nameNumber_7 (by decide) rfl) (fun h7 => ?_) (fun h7 => ?_)
    · refine gg_st (go_iload_n 3 d_X1_nameNumber_10 rfl rfl rfl) ?_
      refine gg_st (go_bipush d_X1_nameNumber_11 cb_60 rfl) ?_
      refine gg_brs (br_icmp_ge (tgt := 35) (pc' := 16) d_X1_nameNumber_13 (by decide) rfl) (fun h8 => ?_) (fun h8 => ?_)
      · exact gg_eq (if_pos ⟨h7, h8⟩) hA5
      · exact gg_eq (if_neg (fun z => h8 z.2)) hB6
    · exact gg_eq (if_neg (fun z => h7 z.1)) hB6
set_option maxRecDepth 20000 in
theorem k_X1_nameNumber (l : Launch) (w : Wo) (F : Nat) (p1 : Int64) (σ : St) : K l w shC m_X1_nameNumber 1 [.ref (2), .long p1] σ (f_X1_nameNumber F p1 σ) (rIS) := by
  refine k_of (L := [some (.ref (2)), some (.long p1), none, none]) (plainFor_of_name (by decide +kernel)) 1 rfl (Nat.le_of_ble_eq_true rfl) ?_
  unfold f_X1_nameNumber
  refine gg_st (go_iconst d_X1_nameNumber_0 ci_0 rfl) ?_
  refine gg_st (go_istore_n 3 d_X1_nameNumber_1 rfl (by decide) (L' := [some (.ref (2)), some (.long p1), none, some (.int (0 : Int32))]) rfl rfl) ?_
  refine g_f_X1_nameNumber_L2 l w F p1 σ _ (fun t9 => ?_) F (0 : Int32)
  refine gg_st (go_aload_n 0 d_X1_nameNumber_35 rfl rfl rfl) ?_
  refine gg_st (go_getI (j := 6) cf1 sC_2 rfl (by decide) fl_X1_39 d_X1_nameNumber_36 rfl) ?_
  refine gg_st (go_bipush d_X1_nameNumber_39 cb_60 rfl) ?_
  refine gg_br (br_icmp_lt (tgt := 46) (pc' := 44) d_X1_nameNumber_41 (by decide) rfl) (fun h12 => ?_) (fun h12 => ?_)
  · refine gg_st (go_iconst d_X1_nameNumber_44 ci_m1 rfl) ?_
    exact gg_iret rfl d_X1_nameNumber_45 rfl
  · refine gg_st (go_aload_n 0 d_X1_nameNumber_46 rfl rfl rfl) ?_
    refine gg_st (go_getR (j := 2) cf1 sC_2 rfl (by decide) fl_X1_18 d_X1_nameNumber_47 rfl) ?_
    refine gg_st (go_aload_n 0 d_X1_nameNumber_50 rfl rfl rfl) ?_
    refine gg_st (go_getI (j := 6) cf1 sC_2 rfl (by decide) fl_X1_39 d_X1_nameNumber_51 rfl) ?_
    refine gg_st (go_lload_n 1 d_X1_nameNumber_54 rfl rfl rfl) ?_
    refine gg_gd (fun h13 => ?_)
    refine gg_st (go_last sC_5 h13 d_X1_nameNumber_55 rfl) ?_
    refine gg_som (fun s14 => ?_)
    refine gg_st (go_aload_n 0 d_X1_nameNumber_56 rfl rfl rfl) ?_
    refine gg_st (go_getR (j := 3) cf1 sC_2 rfl (by decide) fl_X1_22 d_X1_nameNumber_57 rfl) ?_
    refine gg_st (go_aload_n 0 d_X1_nameNumber_60 rfl rfl rfl) ?_
    refine gg_st (go_getI (j := 6) cf1 sC_2 rfl (by decide) fl_X1_39 d_X1_nameNumber_61 rfl) ?_
    refine gg_st (go_iconst d_X1_nameNumber_64 ci_0 rfl) ?_
    refine gg_gd (fun h15 => ?_)
    refine gg_st (go_iast sC_6 h15 d_X1_nameNumber_65 rfl) ?_
    refine gg_som (fun s16 => ?_)
    refine gg_st (go_aload_n 0 d_X1_nameNumber_66 rfl rfl rfl) ?_
    refine gg_st (go_getR (j := 4) cf1 sC_2 rfl (by decide) fl_X1_25 d_X1_nameNumber_67 rfl) ?_
    refine gg_st (go_aload_n 0 d_X1_nameNumber_70 rfl rfl rfl) ?_
    refine gg_st (go_getI (j := 6) cf1 sC_2 rfl (by decide) fl_X1_39 d_X1_nameNumber_71 rfl) ?_
    refine gg_st (go_iconst d_X1_nameNumber_74 ci_0 rfl) ?_
    refine gg_gd (fun h17 => ?_)
    refine gg_st (go_zast (Or.inl rfl) sC_7 h17 d_X1_nameNumber_75 rfl) ?_
    refine gg_som (fun s18 => ?_)
    refine gg_st (go_aload_n 0 d_X1_nameNumber_76 rfl rfl rfl) ?_
    refine gg_st (go_dup d_X1_nameNumber_77 rfl rfl) ?_
    refine gg_st (go_getI (j := 6) cf1 sC_2 rfl (by decide) fl_X1_39 d_X1_nameNumber_78 rfl) ?_
    refine gg_st (go_iconst d_X1_nameNumber_81 ci_1 rfl) ?_
    refine gg_st (go_iadd d_X1_nameNumber_82 rfl) ?_
    refine gg_st (go_putI (j := 6) cf1 sC_2 rfl (by decide) rfl rfl fl_X1_39 d_X1_nameNumber_83 rfl) ?_
    refine gg_som (fun s19 => ?_)
    refine gg_st (go_aload_n 0 d_X1_nameNumber_86 rfl rfl rfl) ?_
    refine gg_st (go_getI (j := 6) cf1 sC_2 rfl (by decide) fl_X1_39 d_X1_nameNumber_87 rfl) ?_
    refine gg_st (go_iconst d_X1_nameNumber_90 ci_1 rfl) ?_
    refine gg_st (go_isub d_X1_nameNumber_91 rfl) ?_
    exact gg_iret rfl d_X1_nameNumber_92 rfl
