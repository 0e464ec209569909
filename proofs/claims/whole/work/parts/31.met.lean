def f_X12_byteAt (p1 : Int32) (σ : St) : Option (Int32) :=
  if p1 < (σ.1 (0) 1) then (
    if inb p1 4000 then (
      some (σ.1 (1) (ix p1)))
    else none)
  else (
    some (0 : Int32))
set_option maxRecDepth 20000 in
theorem k_X12_byteAt (l : Launch) (w : Wo) (p1 : Int32) (σ : St) : K l w shM m_X12_byteAt 1 [.ref (0), .int p1] σ (f_X12_byteAt p1 σ) (rI σ) := by
  refine k_of (L := [some (.ref (0)), some (.int p1)]) (plainFor_of_name (by decide +kernel)) 0 rfl (Nat.le_of_ble_eq_true rfl) ?_
  unfold f_X12_byteAt
  refine gg_st (go_iload_n 1 d_X12_byteAt_0 rfl rfl rfl) ?_
  refine gg_st (go_aload_n 0 d_X12_byteAt_1 rfl rfl rfl) ?_
  refine gg_st (go_getI (j := 1) cf12 sM_0 rfl (by decide) fl_X12_188 d_X12_byteAt_2 rfl) ?_
  refine gg_br (br_icmp_ge (tgt := 17) (pc' := 8) d_X12_byteAt_5 (by decide) rfl) (fun h2 => ?_) (fun h2 => ?_)
  · refine gg_st (go_aload_n 0 d_X12_byteAt_8 rfl rfl rfl) ?_
    refine gg_st (go_getR (j := 0) cf12 sM_0 rfl (by decide) fl_X12_7 d_X12_byteAt_9 rfl) ?_
    refine gg_st (go_iload_n 1 d_X12_byteAt_12 rfl rfl rfl) ?_
    refine gg_gd (fun h3 => ?_)
    refine gg_st (go_iald sM_1 h3 d_X12_byteAt_13 rfl) ?_
    refine gg_st (go_goto (pc' := 18) d_X12_byteAt_14 (by decide)) ?_
    exact gg_iret rfl d_X12_byteAt_18 rfl
  · refine gg_st (go_iconst d_X12_byteAt_17 ci_0 rfl) ?_
    exact gg_iret rfl d_X12_byteAt_18 rfl
def f_X12_facing (p1 : Int32) (σ : St) : Option (Int32) :=
  if inb p1 400 then (
    Option.bind (
      if 0 ≤ (σ.1 (12) (ix p1)) then (
        if inb ((5 : Int32) * p1) 2000 then (
          some (σ.1 (13) (ix ((5 : Int32) * p1))))
        else none)
      else (
        some (-1 : Int32))) fun t2 =>
    if (0 ≤ t2) ∧ ((t2 - t2 / (5 : Int32) * (5 : Int32)) = 0) then (
      some (t2 / (5 : Int32)))
    else (
      some (-1 : Int32)))
  else none
set_option maxRecDepth 20000 in
theorem k_X12_facing (l : Launch) (w : Wo) (p1 : Int32) (σ : St) : K l w shM m_X12_facing 1 [.ref (0), .int p1] σ (f_X12_facing p1 σ) (rI σ) := by
  refine k_of (L := [some (.ref (0)), some (.int p1), none]) (plainFor_of_name (by decide +kernel)) 1 rfl (Nat.le_of_ble_eq_true rfl) ?_
  unfold f_X12_facing
  refine gg_st (go_aload_n 0 d_X12_facing_0 rfl rfl rfl) ?_
  refine gg_st (go_getR (j := 15) cf12 sM_0 rfl (by decide) fl_X12_49 d_X12_facing_1 rfl) ?_
  refine gg_st (go_iload_n 1 d_X12_facing_4 rfl rfl rfl) ?_
  refine gg_gd (fun h1 => ?_)
  refine gg_st (go_iald sM_12 h1 d_X12_facing_5 rfl) ?_
  refine gg_bind 21 (fun (t2 : Int32) => [none, none, none]) (fun (t2 : Int32) => [.int t2]) (fun (t2 : Int32) => σ) ?_ (fun t2 => ?_)
  · refine gg_br (br_if_lt (tgt := 20) (pc' := 9) d_X12_facing_6 (by decide) rfl) (fun h4 => ?_) (fun h4 => ?_)
    · refine gg_st (go_aload_n 0 d_X12_facing_9 rfl rfl rfl) ?_
      refine gg_st (go_getR (j := 16) cf12 sM_0 rfl (by decide) fl_X12_52 d_X12_facing_10 rfl) ?_
      refine gg_st (go_iconst d_X12_facing_13 ci_5 rfl) ?_
      refine gg_st (go_iload_n 1 d_X12_facing_14 rfl rfl rfl) ?_
      refine gg_st (go_imul d_X12_facing_15 rfl) ?_
      refine gg_gd (fun h5 => ?_)
      refine gg_st (go_iald sM_13 h5 d_X12_facing_16 rfl) ?_
      refine gg_st (go_goto (pc' := 21) d_X12_facing_17 (by decide)) ?_
      refine gg_st (go_fg [none, none, none] trivial) ?_
      exact gg_end rfl
    · refine gg_st (go_iconst d_X12_facing_20 ci_m1 rfl) ?_
      refine gg_st (go_fg [none, none, none] trivial) ?_
      exact gg_end rfl
  · refine gg_st (go_istore_n 2 d_X12_facing_21 rfl (by decide) (L' := [none, none, some (.int t2)]) rfl rfl) ?_
    refine gg_st (go_iload_n 2 d_X12_facing_22 rfl rfl rfl) ?_
    refine gg_two (c := (0 ≤ t2) ∧ ((t2 - t2 / (5 : Int32) * (5 : Int32)) = 0)) (pA := 32) (pB := 38) (LL := [none, none, some (.int t2)]) (ss := []) ?_ ?_ (fun hA6 hB7 => ?_)
    · refine gg_st (go_iload_n 2 d_X12_facing_32 rfl rfl rfl) ?_
      refine gg_st (go_iconst d_X12_facing_33 ci_5 rfl) ?_
      refine gg_st (go_idiv d_X12_facing_34 (by decide) rfl) ?_
      refine gg_st (go_goto (pc' := 39) d_X12_facing_35 (by decide)) ?_
      exact gg_iret rfl d_X12_facing_39 rfl
    · refine gg_st (go_iconst d_X12_facing_38 ci_m1 rfl) ?_
      exact gg_iret rfl d_X12_facing_39 rfl
    refine gg_brs (br_if_lt (tgt := 38) (pc' := 26) d_X12_facing_23 (by decide) rfl) (fun h8 => ?_) (fun h8 => ?_)
    · refine gg_st (go_iload_n 2 d_X12_facing_26 rfl rfl rfl) ?_
      refine gg_st (go_iconst d_X12_facing_27 ci_5 rfl) ?_
      refine gg_st (go_irem d_X12_facing_28 (by decide) rfl) ?_
      refine gg_brs (br_if_ne (tgt := 38) (pc' := 32) d_X12_facing_29 (by decide) rfl) (fun h9 => ?_) (fun h9 => ?_)
      · exact gg_eq (if_pos ⟨h8, h9⟩) hA6
      · exact gg_eq (if_neg (fun z => h9 z.2)) hB7
    · exact gg_eq (if_neg (fun z => h8 z.1)) hB7
def f_X12_ruleFor (p1 : Int32) (p2 : Int32) (σ : St) : Option (Int32) :=
  if inb p1 400 then (
    if inb p2 400 then (
      if inb (((16 : Int32) * (σ.1 (12) (ix p1))) + (σ.1 (12) (ix p2))) 256 then (
        some (σ.1 (6) (ix (((16 : Int32) * (σ.1 (12) (ix p1))) + (σ.1 (12) (ix p2))))))
      else none)
    else none)
  else none
set_option maxRecDepth 20000 in
theorem k_X12_ruleFor (l : Launch) (w : Wo) (p1 : Int32) (p2 : Int32) (σ : St) : K l w shM m_X12_ruleFor 1 [.ref (0), .int p1, .int p2] σ (f_X12_ruleFor p1 p2 σ) (rI σ) := by
  refine k_of (L := [some (.ref (0)), some (.int p1), some (.int p2)]) (plainFor_of_name (by decide +kernel)) 0 rfl (Nat.le_of_ble_eq_true rfl) ?_
  unfold f_X12_ruleFor
  refine gg_st (go_aload_n 0 d_X12_ruleFor_0 rfl rfl rfl) ?_
  refine gg_st (go_getR (j := 9) cf12 sM_0 rfl (by decide) fl_X12_31 d_X12_ruleFor_1 rfl) ?_
  refine gg_st (go_bipush d_X12_ruleFor_4 cb_16 rfl) ?_
  refine gg_st (go_aload_n 0 d_X12_ruleFor_6 rfl rfl rfl) ?_
  refine gg_st (go_getR (j := 15) cf12 sM_0 rfl (by decide) fl_X12_49 d_X12_ruleFor_7 rfl) ?_
  refine gg_st (go_iload_n 1 d_X12_ruleFor_10 rfl rfl rfl) ?_
  refine gg_gd (fun h1 => ?_)
  refine gg_st (go_iald sM_12 h1 d_X12_ruleFor_11 rfl) ?_
  refine gg_st (go_imul d_X12_ruleFor_12 rfl) ?_
  refine gg_st (go_aload_n 0 d_X12_ruleFor_13 rfl rfl rfl) ?_
  refine gg_st (go_getR (j := 15) cf12 sM_0 rfl (by decide) fl_X12_49 d_X12_ruleFor_14 rfl) ?_
  refine gg_st (go_iload_n 2 d_X12_ruleFor_17 rfl rfl rfl) ?_
  refine gg_gd (fun h2 => ?_)
  refine gg_st (go_iald sM_12 h2 d_X12_ruleFor_18 rfl) ?_
  refine gg_st (go_iadd d_X12_ruleFor_19 rfl) ?_
  refine gg_gd (fun h3 => ?_)
  refine gg_st (go_iald sM_6 h3 d_X12_ruleFor_20 rfl) ?_
  exact gg_iret rfl d_X12_ruleFor_21 rfl
def f_X12_isPair (p1 : Int32) (p2 : Int32) (σ : St) : Option (Int32) :=
  Option.bind (f_X12_facing p1 σ) fun x1 =>
  if p1 < x1 then (
    Option.bind (f_X12_ruleFor p1 x1 σ) fun x3 =>
    Option.bind (
      if 0 ≤ x3 then (
        some (1 : Int32))
      else (
        some (0 : Int32))) fun t4 =>
    if t4 = p2 then (
      some (1 : Int32))
    else (
      some (0 : Int32)))
  else (
    some (0 : Int32))
set_option maxRecDepth 20000 in
theorem k_X12_isPair (l : Launch) (w : Wo) (p1 : Int32) (p2 : Int32) (σ : St) : K l w shM m_X12_isPair 2 [.ref (0), .int p1, .int p2] σ (f_X12_isPair p1 p2 σ) (rI σ) := by
  refine k_of (L := [some (.ref (0)), some (.int p1), some (.int p2), none]) (plainFor_of_name (by decide +kernel)) 1 rfl (Nat.le_of_ble_eq_true rfl) ?_
  unfold f_X12_isPair
  refine gg_st (go_aload_n 0 d_X12_isPair_0 rfl rfl rfl) ?_
  refine gg_st (go_iload_n 1 d_X12_isPair_1 rfl rfl rfl) ?_
  refine gv_I (k_X12_facing l w p1 σ) cv_X12_374 sM_0 (Nat.le_of_ble_eq_true rfl) rfl rfl (Nat.le_of_ble_eq_true rfl) d_X12_isPair_2 rfl (fun x1 => ?_)
  refine gg_st (go_istore_n 3 d_X12_isPair_5 rfl (by decide) (L' := [some (.ref (0)), some (.int p1), some (.int p2), some (.int x1)]) rfl rfl) ?_
  refine gg_st (go_iload_n 3 d_X12_isPair_6 rfl rfl rfl) ?_
  refine gg_st (go_iload_n 1 d_X12_isPair_7 rfl rfl rfl) ?_
  refine gg_br (br_icmp_le (tgt := 33) (pc' := 11) d_X12_isPair_8 (by decide) rfl) (fun h2 => ?_) (fun h2 => ?_)
  · refine gg_st (go_aload_n 0 d_X12_isPair_11 rfl rfl rfl) ?_
    refine gg_st (go_iload_n 1 d_X12_isPair_12 rfl rfl rfl) ?_
    refine gg_st (go_iload_n 3 d_X12_isPair_13 rfl rfl rfl) ?_
    refine gv_I (k_X12_ruleFor l w p1 x1 σ) cv_X12_377 sM_0 (Nat.le_of_ble_eq_true rfl) rfl rfl (Nat.le_of_ble_eq_true rfl) d_X12_isPair_14 rfl (fun x3 => ?_)
    refine gg_bind 25 (fun (t4 : Int32) => [none, none, some (.int p2), none]) (fun (t4 : Int32) => [.int t4]) (fun (t4 : Int32) => σ) ?_ (fun t4 => ?_)
    · refine gg_br (br_if_lt (tgt := 24) (pc' := 20) d_X12_isPair_17 (by decide) rfl) (fun h5 => ?_) (fun h5 => ?_)
      · refine gg_st (go_iconst d_X12_isPair_20 ci_1 rfl) ?_
        refine gg_st (go_goto (pc' := 25) d_X12_isPair_21 (by decide)) ?_
        refine gg_st (go_fg [none, none, some (.int p2), none] ⟨rfl, trivial⟩) ?_
        exact gg_end rfl
      · refine gg_st (go_iconst d_X12_isPair_24 ci_0 rfl) ?_
        refine gg_st (go_fg [none, none, some (.int p2), none] ⟨rfl, trivial⟩) ?_
        exact gg_end rfl
    · refine gg_st (go_iload_n 2 d_X12_isPair_25 rfl rfl rfl) ?_
      refine gg_br (br_icmp_ne (tgt := 33) (pc' := 29) d_X12_isPair_26 (by decide) rfl) (fun h6 => ?_) (fun h6 => ?_)
      · refine gg_st (go_iconst d_X12_isPair_29 ci_1 rfl) ?_
        refine gg_st (go_goto (pc' := 34) d_X12_isPair_30 (by decide)) ?_
        exact gg_zret (Or.inr rfl) rfl d_X12_isPair_34 rfl
      · refine gg_st (go_iconst d_X12_isPair_33 ci_0 rfl) ?_
        exact gg_zret (Or.inl rfl) rfl d_X12_isPair_34 rfl
  · refine gg_st (go_iconst d_X12_isPair_33 ci_0 rfl) ?_
    exact gg_zret (Or.inl rfl) rfl d_X12_isPair_34 rfl
def f_X12_pair_L4 (F : Nat) (σ : St) : Nat → Int32 → Int32 → Option (Int32)
  | 0, _, _ => none
  | n + 1, v1, v2 =>
    if v2 < (400 : Int32) then (
      Option.bind (f_X12_isPair v2 (1 : Int32) σ) fun x4 =>
      Option.bind (some (fun (t5 : Int32) =>
        f_X12_pair_L4 F σ n t5 (v2 + (1 : Int32)))) fun jp6 =>
      if x4 = 0 then (
        jp6 v1)
      else (
        if v1 = 0 then (
          some v2)
        else (
          Option.bind (some (v1 + (-1 : Int32))) fun x9 =>
          jp6 x9)))
    else (
      some (-1 : Int32))
def f_X12_pair (F : Nat) (p1 : Int32) (σ : St) : Option (Int32) :=
  f_X12_pair_L4 F σ F p1 (0 : Int32)
set_option maxRecDepth 20000 in
theorem g_f_X12_pair_L4 (l : Launch) (w : Wo) (F : Nat) (σ : St) : ∀ (n : Nat) (v1 : Int32) (v2 : Int32), GG l w shM m_X12_pair 3 4 [some (.ref (0)), none, some (.int v1), some (.int v2)] [] σ (f_X12_pair_L4 F σ n v1 v2) (fun q => .inr ((rI σ) q)) := by
  intro n
  induction n with
  | zero =>
    intro v1 v2
    exact gg_none
  | succ n ih =>
    intro v1 v2
    rw [f_X12_pair_L4]
    refine gg_st (go_iload_n 3 d_X12_pair_4 rfl rfl rfl) ?_
    refine gg_st (go_sipush d_X12_pair_5 cs_400 rfl) ?_
    refine gg_br (br_icmp_ge (tgt := 35) (pc' := 11) d_X12_pair_8 (by decide) rfl) (fun h3 => ?_) (fun h3 => ?_)
    · refine gg_st (go_aload_n 0 d_X12_pair_11 rfl rfl rfl) ?_
      refine gg_st (go_iload_n 3 d_X12_pair_12 rfl rfl rfl) ?_
      refine gg_st (go_iconst d_X12_pair_13 ci_1 rfl) ?_
      refine gv_I (k_X12_isPair l w v2 (1 : Int32) σ) cv_X12_381 sM_0 (Nat.le_of_ble_eq_true rfl) rfl rfl (Nat.le_of_ble_eq_true rfl) d_X12_pair_14 rfl (fun x4 => ?_)
      refine gg_jp 29 (fun (t5 : Int32) => [some (.ref (0)), none, some (.int t5), some (.int v2)]) (fun (t5 : Int32) => []) (fun (t5 : Int32) => σ) (fun t5 => ?_) (fun jp6 hjp6 => ?_)
      · refine gg_st (go_iinc 3 d_X12_pair_29 rfl (v := v2 + (1 : Int32)) (by rw [ci_1]) (by decide) (L' := [some (.ref (0)), none, some (.int t5), some (.int (v2 + (1 : Int32)))]) rfl rfl) ?_
        refine gg_st (go_goto (pc' := 4) d_X12_pair_32 (by decide)) ?_
        exact ih t5 (v2 + (1 : Int32))
      refine gg_br (br_if_eq (tgt := 29) (pc' := 20) d_X12_pair_17 (by decide) rfl) (fun h7 => ?_) (fun h7 => ?_)
      · exact hjp6 v1
      · refine gg_st (go_iload_n 2 d_X12_pair_20 rfl rfl rfl) ?_
        refine gg_br (br_if_ne (tgt := 26) (pc' := 24) d_X12_pair_21 (by decide) rfl) (fun h8 => ?_) (fun h8 => ?_)
        · refine gg_st (go_iload_n 3 d_X12_pair_24 rfl rfl rfl) ?_
          exact gg_iret rfl d_X12_pair_25 rfl
        · refine gg_st (go_iinc 2 d_X12_pair_26 rfl (v := v1 + (-1 : Int32)) (by rw [ci_m1]) (by decide) (L' := [some (.ref (0)), none, some (.int (v1 + (-1 : Int32))), some (.int v2)]) rfl rfl) ?_
          refine gg_nm (fun (x9 : Int32) => [some (.ref (0)), none, some (.int x9), some (.int v2)]) (fun _ => []) (fun x9 => ?_)
          exact hjp6 x9
    · refine gg_st (go_iconst d_X12_pair_35 ci_m1 rfl) ?_
      exact gg_iret rfl d_X12_pair_36 rfl
set_option maxRecDepth 20000 in
theorem k_X12_pair (l : Launch) (w : Wo) (F : Nat) (p1 : Int32) (σ : St) : K l w shM m_X12_pair 3 [.ref (0), .int p1] σ (f_X12_pair F p1 σ) (rI σ) := by
  refine k_of (L := [some (.ref (0)), some (.int p1), none, none]) (plainFor_of_name (by decide +kernel)) 2 rfl (Nat.le_of_ble_eq_true rfl) ?_
  unfold f_X12_pair
  refine gg_st (go_iload_n 1 d_X12_pair_0 rfl rfl rfl) ?_
  refine gg_st (go_istore_n 2 d_X12_pair_1 rfl (by decide) (L' := [some (.ref (0)), some (.int p1), some (.int p1), none]) rfl rfl) ?_
  refine gg_st (go_iconst d_X12_pair_2 ci_0 rfl) ?_
  refine gg_st (go_istore_n 3 d_X12_pair_3 rfl (by decide) (L' := [some (.ref (0)), some (.int p1), some (.int p1), some (.int (0 : Int32))]) rfl rfl) ?_
  refine gg_st (go_fg [some (.ref (0)), none, some (.int p1), some (.int (0 : Int32))] ⟨rfl, ⟨rfl, ⟨rfl, trivial⟩⟩⟩) ?_
  refine g_f_X12_pair_L4 l w F σ  F p1 (0 : Int32)
def f_X12_pairs_L4 (F : Nat) (c1 : Int32) (σ : St) : Nat → Int32 → Int32 → Option (Int32)
  | 0, _, _ => none
  | n + 1, v1, v2 =>
    if v2 < (400 : Int32) then (
      Option.bind (f_X12_isPair v2 c1 σ) fun x4 =>
      Option.bind (
        if x4 = 0 then (
          some (0 : Int32))
        else (
          some (1 : Int32))) fun t5 =>
      Option.bind (some (v1 + t5)) fun x7 =>
      f_X12_pairs_L4 F c1 σ n x7 (v2 + (1 : Int32)))
    else (
      some v1)
def f_X12_pairs (F : Nat) (p1 : Int32) (σ : St) : Option (Int32) :=
  Option.bind (f_X12_pairs_L4 F p1 σ F (0 : Int32) (0 : Int32)) fun t8 =>
  some t8
set_option maxRecDepth 20000 in
theorem g_f_X12_pairs_L4 (l : Launch) (w : Wo) (F : Nat) (c1 : Int32) (σ : St) : ∀ (n : Nat) (v1 : Int32) (v2 : Int32), GG l w shM m_X12_pairs 3 4 [some (.ref (0)), some (.int c1), some (.int v1), some (.int v2)] [] σ (f_X12_pairs_L4 F c1 σ n v1 v2) (fun (t : Int32) => .inl (34, [none, none, some (.int t), none], [], σ)) := by
  intro n
  induction n with
  | zero =>
    intro v1 v2
    exact gg_none
  | succ n ih =>
    intro v1 v2
    rw [f_X12_pairs_L4]
    refine gg_st (go_iload_n 3 d_X12_pairs_4 rfl rfl rfl) ?_
    refine gg_st (go_sipush d_X12_pairs_5 cs_400 rfl) ?_
    refine gg_br (br_icmp_ge (tgt := 34) (pc' := 11) d_X12_pairs_8 (by decide) rfl) (fun h3 => ?_) (fun h3 => ?_)
    · refine gg_st (go_iload_n 2 d_X12_pairs_11 rfl rfl rfl) ?_
      refine gg_st (go_aload_n 0 d_X12_pairs_12 rfl rfl rfl) ?_
      refine gg_st (go_iload_n 3 d_X12_pairs_13 rfl rfl rfl) ?_
      refine gg_st (go_iload_n 1 d_X12_pairs_14 rfl rfl rfl) ?_
      refine gv_I (k_X12_isPair l w v2 c1 σ) cv_X12_381 sM_0 (Nat.le_of_ble_eq_true rfl) rfl rfl (Nat.le_of_ble_eq_true rfl) d_X12_pairs_15 rfl (fun x4 => ?_)
      refine gg_bind 26 (fun (t5 : Int32) => [some (.ref (0)), some (.int c1), none, some (.int v2)]) (fun (t5 : Int32) => [.int t5, .int v1]) (fun (t5 : Int32) => σ) ?_ (fun t5 => ?_)
      · refine gg_br (br_if_eq (tgt := 25) (pc' := 21) d_X12_pairs_18 (by decide) rfl) (fun h6 => ?_) (fun h6 => ?_)
        · refine gg_st (go_iconst d_X12_pairs_25 ci_0 rfl) ?_
          refine gg_st (go_fg [some (.ref (0)), some (.int c1), none, some (.int v2)] ⟨rfl, ⟨rfl, ⟨rfl, trivial⟩⟩⟩) ?_
          exact gg_end rfl
        · refine gg_st (go_iconst d_X12_pairs_21 ci_1 rfl) ?_
          refine gg_st (go_goto (pc' := 26) d_X12_pairs_22 (by decide)) ?_
          refine gg_st (go_fg [some (.ref (0)), some (.int c1), none, some (.int v2)] ⟨rfl, ⟨rfl, ⟨rfl, trivial⟩⟩⟩) ?_
          exact gg_end rfl
      · refine gg_st (go_iadd d_X12_pairs_26 rfl) ?_
        refine gg_nm (fun _ => [some (.ref (0)), some (.int c1), none, some (.int v2)]) (fun (x7 : Int32) => [.int x7]) (fun x7 => ?_)
        refine gg_st (go_istore_n 2 d_X12_pairs_27 rfl (by decide) (L' := [some (.ref (0)), some (.int c1), some (.int x7), some (.int v2)]) rfl rfl) ?_
        refine gg_st (go_iinc 3 d_X12_pairs_28 rfl (v := v2 + (1 : Int32)) (by rw [ci_1]) (by decide) (L' := [some (.ref (0)), some (.int c1), some (.int x7), some (.int (v2 + (1 : Int32)))]) rfl rfl) ?_
        refine gg_st (go_goto (pc' := 4) d_X12_pairs_31 (by decide)) ?_
        exact ih x7 (v2 + (1 : Int32))
    · refine gg_st (go_fg [none, none, some (.int v1), none] ⟨rfl, trivial⟩) ?_
      exact gg_end rfl
set_option maxRecDepth 20000 in
theorem k_X12_pairs (l : Launch) (w : Wo) (F : Nat) (p1 : Int32) (σ : St) : K l w shM m_X12_pairs 3 [.ref (0), .int p1] σ (f_X12_pairs F p1 σ) (rI σ) := by
  refine k_of (L := [some (.ref (0)), some (.int p1), none, none]) (plainFor_of_name (by decide +kernel)) 2 rfl (Nat.le_of_ble_eq_true rfl) ?_
  unfold f_X12_pairs
  refine gg_st (go_iconst d_X12_pairs_0 ci_0 rfl) ?_
  refine gg_st (go_istore_n 2 d_X12_pairs_1 rfl (by decide) (L' := [some (.ref (0)), some (.int p1), some (.int (0 : Int32)), none]) rfl rfl) ?_
  refine gg_st (go_iconst d_X12_pairs_2 ci_0 rfl) ?_
  refine gg_st (go_istore_n 3 d_X12_pairs_3 rfl (by decide) (L' := [some (.ref (0)), some (.int p1), some (.int (0 : Int32)), some (.int (0 : Int32))]) rfl rfl) ?_
  refine gg_bind 34 (fun (t8 : Int32) => [none, none, some (.int t8), none]) (fun (t8 : Int32) => []) (fun (t8 : Int32) => σ) (g_f_X12_pairs_L4 l w F p1 σ F (0 : Int32) (0 : Int32)) (fun t8 => ?_)
  refine gg_st (go_iload_n 2 d_X12_pairs_34 rfl rfl rfl) ?_
  exact gg_iret rfl d_X12_pairs_35 rfl
def f_X12_chosen (F : Nat) (p1 : Int32) (σ : St) : Option (Int32 × St) :=
  Option.bind (f_X12_pairs F (1 : Int32) σ) fun x1 =>
  if x1 = 0 then (
    some ((-1 : Int32), σ))
  else (
    Option.bind (
      if p1 = (3 : Int32) then (
        Option.bind (some (setl σ (0) 24 (((σ.2 (0) 24) * (6364136223846793005 : Int64)) + (1442695040888963407 : Int64)))) fun s7 =>
        some s7)
      else (
        some σ)) fun t4 =>
    Option.bind (
      if p1 = 0 then (
        some (0 : Int32))
      else (
        if p1 = (1 : Int32) then (
          some (x1 - (1 : Int32)))
        else (
          if ¬ x1.toInt64 = 0 then (
            some (((((t4.2 (0) 24).toUInt64 >>> ((33 : Int32).toInt64.toUInt64 &&& Int64.toUInt64 63)).toInt64) - (((t4.2 (0) 24).toUInt64 >>> ((33 : Int32).toInt64.toUInt64 &&& Int64.toUInt64 63)).toInt64) / (x1.toInt64) * (x1.toInt64)).toInt32))
          else none))) fun t8 =>
    Option.bind (f_X12_pair F t8 t4) fun x14 =>
    some (x14, t4))
set_option maxRecDepth 20000 in
theorem k_X12_chosen (l : Launch) (w : Wo) (F : Nat) (p1 : Int32) (σ : St) : K l w shM m_X12_chosen 4 [.ref (0), .int p1] σ (f_X12_chosen F p1 σ) (rIS) := by
  refine k_of (L := [some (.ref (0)), some (.int p1), none]) (plainFor_of_name (by decide +kernel)) 1 rfl (Nat.le_of_ble_eq_true rfl) ?_
  unfold f_X12_chosen
  refine gg_st (go_aload_n 0 d_X12_chosen_0 rfl rfl rfl) ?_
  refine gg_st (go_iconst d_X12_chosen_1 ci_1 rfl) ?_
  refine gv_I (k_X12_pairs l w F (1 : Int32) σ) cv_X12_391 sM_0 (Nat.le_of_ble_eq_true rfl) rfl rfl (Nat.le_of_ble_eq_true rfl) d_X12_chosen_2 rfl (fun x1 => ?_)
  refine gg_st (go_istore_n 2 d_X12_chosen_5 rfl (by decide) (L' := [some (.ref (0)), some (.int p1), some (.int x1)]) rfl rfl) ?_
  refine gg_st (go_iload_n 2 d_X12_chosen_6 rfl rfl rfl) ?_
  refine gg_br (br_if_ne (tgt := 12) (pc' := 10) d_X12_chosen_7 (by decide) rfl) (fun h3 => ?_) (fun h3 => ?_)
  · refine gg_st (go_iconst d_X12_chosen_10 ci_m1 rfl) ?_
    exact gg_iret rfl d_X12_chosen_11 rfl
  · refine gg_st (go_iload_n 1 d_X12_chosen_12 rfl rfl rfl) ?_
    refine gg_st (go_iconst d_X12_chosen_13 ci_3 rfl) ?_
    refine gg_bind 33 (fun (t4 : St) => [some (.ref (0)), some (.int p1), some (.int x1)]) (fun (t4 : St) => []) (fun (t4 : St) => t4) ?_ (fun t4 => ?_)
    · refine gg_br (br_icmp_ne (tgt := 33) (pc' := 17) d_X12_chosen_14 (by decide) rfl) (fun h6 => ?_) (fun h6 => ?_)
      · refine gg_st (go_aload_n 0 d_X12_chosen_17 rfl rfl rfl) ?_
        refine gg_st (go_aload_n 0 d_X12_chosen_18 rfl rfl rfl) ?_
        refine gg_st (go_getL (j := 24) cf12 sM_0 rfl (by decide) fl_X12_58 d_X12_chosen_19 rfl) ?_
        refine gg_st (go_ldc2 ll_X12_430 d_X12_chosen_22 rfl) ?_
        refine gg_st (go_lmul d_X12_chosen_25 rfl) ?_
        refine gg_st (go_ldc2 ll_X12_432 d_X12_chosen_26 rfl) ?_
        refine gg_st (go_ladd d_X12_chosen_29 rfl) ?_
        refine gg_st (go_putL (j := 24) cf12 sM_0 rfl (by decide) rfl rfl fl_X12_58 d_X12_chosen_30 rfl) ?_
        refine gg_som (fun s7 => ?_)
        exact gg_end rfl
      · exact gg_end rfl
    · refine gg_st (go_aload_n 0 d_X12_chosen_33 rfl rfl rfl) ?_
      refine gg_st (go_iload_n 1 d_X12_chosen_34 rfl rfl rfl) ?_
      refine gg_bind 64 (fun (t8 : Int32) => [none, none, none]) (fun (t8 : Int32) => [.int t8, .ref (0)]) (fun (t8 : Int32) => t4) ?_ (fun t8 => ?_)
      · refine gg_br (br_if_ne (tgt := 42) (pc' := 38) d_X12_chosen_35 (by decide) rfl) (fun h10 => ?_) (fun h10 => ?_)
        · refine gg_st (go_iconst d_X12_chosen_38 ci_0 rfl) ?_
          refine gg_st (go_goto (pc' := 64) d_X12_chosen_39 (by decide)) ?_
          refine gg_st (go_fg [none, none, none] trivial) ?_
          exact gg_end rfl
        · refine gg_st (go_iload_n 1 d_X12_chosen_42 rfl rfl rfl) ?_
          refine gg_st (go_iconst d_X12_chosen_43 ci_1 rfl) ?_
          refine gg_br (br_icmp_ne (tgt := 53) (pc' := 47) d_X12_chosen_44 (by decide) rfl) (fun h12 => ?_) (fun h12 => ?_)
          · refine gg_st (go_iload_n 2 d_X12_chosen_47 rfl rfl rfl) ?_
            refine gg_st (go_iconst d_X12_chosen_48 ci_1 rfl) ?_
            refine gg_st (go_isub d_X12_chosen_49 rfl) ?_
            refine gg_st (go_goto (pc' := 64) d_X12_chosen_50 (by decide)) ?_
            refine gg_st (go_fg [none, none, none] trivial) ?_
            exact gg_end rfl
          · refine gg_st (go_aload_n 0 d_X12_chosen_53 rfl rfl rfl) ?_
            refine gg_st (go_getL (j := 24) cf12 sM_0 rfl (by decide) fl_X12_58 d_X12_chosen_54 rfl) ?_
            refine gg_st (go_bipush d_X12_chosen_57 cb_33 rfl) ?_
            refine gg_st (go_lushr d_X12_chosen_59 rfl) ?_
            refine gg_st (go_iload_n 2 d_X12_chosen_60 rfl rfl rfl) ?_
            refine gg_st (go_i2l d_X12_chosen_61 rfl) ?_
            refine gg_gd (fun h13 => ?_)
            refine gg_st (go_lrem d_X12_chosen_62 h13 rfl) ?_
            refine gg_st (go_l2i d_X12_chosen_63 rfl) ?_
            refine gg_st (go_fg [none, none, none] trivial) ?_
            exact gg_end rfl
      · refine gv_I (k_X12_pair l w F t8 t4) cv_X12_434 sM_0 (Nat.le_of_ble_eq_true rfl) rfl rfl (Nat.le_of_ble_eq_true rfl) d_X12_chosen_64 rfl (fun x14 => ?_)
        exact gg_iret rfl d_X12_chosen_67 rfl
def f_X12_waitsFor (p1 : Int32) (σ : St) : Option (Int32) :=
  if inb p1 400 then (
    Option.bind (
      if 0 ≤ (σ.1 (12) (ix p1)) then (
        if inb ((5 : Int32) * p1) 2000 then (
          some (σ.1 (13) (ix ((5 : Int32) * p1))))
        else none)
      else (
        some (-1 : Int32))) fun t2 =>
    if (0 ≤ t2) ∧ (¬ ((t2 - t2 / (5 : Int32) * (5 : Int32)) = 0)) then (
      some (t2 / (5 : Int32)))
    else (
      some (-1 : Int32)))
  else none
set_option maxRecDepth 20000 in
theorem k_X12_waitsFor (l : Launch) (w : Wo) (p1 : Int32) (σ : St) : K l w shM m_X12_waitsFor 1 [.ref (0), .int p1] σ (f_X12_waitsFor p1 σ) (rI σ) := by
  refine k_of (L := [some (.ref (0)), some (.int p1), none]) (plainFor_of_name (by decide +kernel)) 1 rfl (Nat.le_of_ble_eq_true rfl) ?_
  unfold f_X12_waitsFor
  refine gg_st (go_aload_n 0 d_X12_waitsFor_0 rfl rfl rfl) ?_
  refine gg_st (go_getR (j := 15) cf12 sM_0 rfl (by decide) fl_X12_49 d_X12_waitsFor_1 rfl) ?_
  refine gg_st (go_iload_n 1 d_X12_waitsFor_4 rfl rfl rfl) ?_
  refine gg_gd (fun h1 => ?_)
  refine gg_st (go_iald sM_12 h1 d_X12_waitsFor_5 rfl) ?_
  refine gg_bind 21 (fun (t2 : Int32) => [none, none, none]) (fun (t2 : Int32) => [.int t2]) (fun (t2 : Int32) => σ) ?_ (fun t2 => ?_)
  · refine gg_br (br_if_lt (tgt := 20) (pc' := 9) d_X12_waitsFor_6 (by decide) rfl) (fun h4 => ?_) (fun h4 => ?_)
    · refine gg_st (go_aload_n 0 d_X12_waitsFor_9 rfl rfl rfl) ?_
      refine gg_st (go_getR (j := 16) cf12 sM_0 rfl (by decide) fl_X12_52 d_X12_waitsFor_10 rfl) ?_
      refine gg_st (go_iconst d_X12_waitsFor_13 ci_5 rfl) ?_
      refine gg_st (go_iload_n 1 d_X12_waitsFor_14 rfl rfl rfl) ?_
      refine gg_st (go_imul d_X12_waitsFor_15 rfl) ?_
      refine gg_gd (fun h5 => ?_)
      refine gg_st (go_iald sM_13 h5 d_X12_waitsFor_16 rfl) ?_
      refine gg_st (go_goto (pc' := 21) d_X12_waitsFor_17 (by decide)) ?_
      refine gg_st (go_fg [none, none, none] trivial) ?_
      exact gg_end rfl
    · refine gg_st (go_iconst d_X12_waitsFor_20 ci_m1 rfl) ?_
      refine gg_st (go_fg [none, none, none] trivial) ?_
      exact gg_end rfl
  · refine gg_st (go_istore_n 2 d_X12_waitsFor_21 rfl (by decide) (L' := [none, none, some (.int t2)]) rfl rfl) ?_
    refine gg_st (go_iload_n 2 d_X12_waitsFor_22 rfl rfl rfl) ?_
    refine gg_two (c := (0 ≤ t2) ∧ (¬ ((t2 - t2 / (5 : Int32) * (5 : Int32)) = 0))) (pA := 32) (pB := 38) (LL := [none, none, some (.int t2)]) (ss := []) ?_ ?_ (fun hA6 hB7 => ?_)
    · refine gg_st (go_iload_n 2 d_X12_waitsFor_32 rfl rfl rfl) ?_
      refine gg_st (go_iconst d_X12_waitsFor_33 ci_5 rfl) ?_
      refine gg_st (go_idiv d_X12_waitsFor_34 (by decide) rfl) ?_
      refine gg_st (go_goto (pc' := 39) d_X12_waitsFor_35 (by decide)) ?_
      exact gg_iret rfl d_X12_waitsFor_39 rfl
    · refine gg_st (go_iconst d_X12_waitsFor_38 ci_m1 rfl) ?_
      exact gg_iret rfl d_X12_waitsFor_39 rfl
    refine gg_brs (br_if_lt (tgt := 38) (pc' := 26) d_X12_waitsFor_23 (by decide) rfl) (fun h8 => ?_) (fun h8 => ?_)
    · refine gg_st (go_iload_n 2 d_X12_waitsFor_26 rfl rfl rfl) ?_
      refine gg_st (go_iconst d_X12_waitsFor_27 ci_5 rfl) ?_
      refine gg_st (go_irem d_X12_waitsFor_28 (by decide) rfl) ?_
      refine gg_brs (br_if_eq (tgt := 38) (pc' := 32) d_X12_waitsFor_29 (by decide) rfl) (fun h9 => ?_) (fun h9 => ?_)
      · exact gg_eq (if_neg (fun z => (fun z => z h9) z.2)) hB7
      · exact gg_eq (if_pos ⟨h8, h9⟩) hA6
    · exact gg_eq (if_neg (fun z => h8 z.1)) hB7
def f_X12_circles_L20 (F : Nat) (c1 : Int32) (c2 : Int32) (σ : St) : Nat → Int32 → Int32 → Option (Int32)
  | 0, _, _ => none
  | n + 1, v5, v6 =>
    if (v6 < (400 : Int32)) ∧ (c2 < v5) then (
      Option.bind (f_X12_waitsFor v5 σ) fun x7 =>
      f_X12_circles_L20 F c1 c2 σ n x7 (v6 + (1 : Int32)))
    else (
      some v5)
def f_X12_circles_L4 (F : Nat) (σ : St) : Nat → Int32 → Int32 → Option (Int32)
  | 0, _, _ => none
  | n + 1, v1, v2 =>
    if v2 < (400 : Int32) then (
      Option.bind (f_X12_waitsFor v2 σ) fun x4 =>
      Option.bind (f_X12_circles_L20 F v1 v2 σ F x4 (0 : Int32)) fun t12 =>
      Option.bind (
        if t12 = v2 then (
          some (1 : Int32))
        else (
          some (0 : Int32))) fun t13 =>
      Option.bind (some (v1 + t13)) fun x15 =>
      f_X12_circles_L4 F σ n x15 (v2 + (1 : Int32)))
    else (
      some v1)
def f_X12_circles (F : Nat) (σ : St) : Option (Int32) :=
  Option.bind (f_X12_circles_L4 F σ F (0 : Int32) (0 : Int32)) fun t16 =>
  some t16
set_option maxRecDepth 20000 in
theorem g_f_X12_circles_L20 (l : Launch) (w : Wo) (F : Nat) (c1 : Int32) (c2 : Int32) (σ : St) : ∀ (n : Nat) (v5 : Int32) (v6 : Int32), GG l w shM m_X12_circles 2 20 [some (.ref (0)), some (.int c1), some (.int c2), some (.int v5), some (.int v6)] [] σ (f_X12_circles_L20 F c1 c2 σ n v5 v6) (fun (t : Int32) => .inl (45, [some (.ref (0)), some (.int c1), some (.int c2), some (.int t), none], [], σ)) := by
  intro n
  induction n with
  | zero =>
    intro v5 v6
    exact gg_none
  | succ n ih =>
    intro v5 v6
    rw [f_X12_circles_L20]
    refine gg_st (go_iload 4 d_X12_circles_20 rfl rfl) ?_
    refine gg_st (go_sipush d_X12_circles_22 cs_400 rfl) ?_
    refine gg_two (c := (v6 < (400 : Int32)) ∧ (c2 < v5)) (pA := 33) (pB := 45) (LL := [some (.ref (0)), some (.int c1), some (.int c2), some (.int v5), some (.int v6)]) (ss := []) ?_ ?_ (fun hA8 hB9 => ?_)
    · refine gg_st (go_aload_n 0 d_X12_circles_33 rfl rfl rfl) ?_
      refine gg_st (go_iload_n 3 d_X12_circles_34 rfl rfl rfl) ?_
      refine gv_I (k_X12_waitsFor l w v5 σ) cv_X12_385 sM_0 (Nat.le_of_ble_eq_true rfl) rfl rfl (Nat.le_of_ble_eq_true rfl) d_X12_circles_35 rfl (fun x7 => ?_)
      refine gg_st (go_istore_n 3 d_X12_circles_38 rfl (by decide) (L' := [some (.ref (0)), some (.int c1), some (.int c2), some (.int x7), some (.int v6)]) rfl rfl) ?_
      refine gg_st (go_iinc 4 d_X12_circles_39 rfl (v := v6 + (1 : Int32)) (by rw [ci_1]) (by decide) (L' := [some (.ref (0)), some (.int c1), some (.int c2), some (.int x7), some (.int (v6 + (1 : Int32)))]) rfl rfl) ?_
      refine gg_st (go_goto (pc' := 20) d_X12_circles_42 (by decide)) ?_
      exact ih x7 (v6 + (1 : Int32))
    · refine gg_st (go_fg [some (.ref (0)), some (.int c1), some (.int c2), some (.int v5), none] ⟨rfl, ⟨rfl, ⟨rfl, ⟨rfl, trivial⟩⟩⟩⟩) ?_
      exact gg_end rfl
    refine gg_brs (br_icmp_ge (tgt := 45) (pc' := 28) d_X12_circles_25 (by decide) rfl) (fun h10 => ?_) (fun h10 => ?_)
    · refine gg_st (go_iload_n 3 d_X12_circles_28 rfl rfl rfl) ?_
      refine gg_st (go_iload_n 2 d_X12_circles_29 rfl rfl rfl) ?_
      refine gg_brs (br_icmp_le (tgt := 45) (pc' := 33) d_X12_circles_30 (by decide) rfl) (fun h11 => ?_) (fun h11 => ?_)
      · exact gg_eq (if_pos ⟨h10, h11⟩) hA8
      · exact gg_eq (if_neg (fun z => h11 z.2)) hB9
    · exact gg_eq (if_neg (fun z => h10 z.1)) hB9
set_option maxRecDepth 20000 in
theorem g_f_X12_circles_L4 (l : Launch) (w : Wo) (F : Nat) (σ : St) : ∀ (n : Nat) (v1 : Int32) (v2 : Int32), GG l w shM m_X12_circles 2 4 [some (.ref (0)), some (.int v1), some (.int v2), none, none] [] σ (f_X12_circles_L4 F σ n v1 v2) (fun (t : Int32) => .inl (64, [none, some (.int t), none, none, none], [], σ)) := by
  intro n
  induction n with
  | zero =>
    intro v1 v2
    exact gg_none
  | succ n ih =>
    intro v1 v2
    rw [f_X12_circles_L4]
    refine gg_st (go_iload_n 2 d_X12_circles_4 rfl rfl rfl) ?_
    refine gg_st (go_sipush d_X12_circles_5 cs_400 rfl) ?_
    refine gg_br (br_icmp_ge (tgt := 64) (pc' := 11) d_X12_circles_8 (by decide) rfl) (fun h3 => ?_) (fun h3 => ?_)
    · refine gg_st (go_aload_n 0 d_X12_circles_11 rfl rfl rfl) ?_
      refine gg_st (go_iload_n 2 d_X12_circles_12 rfl rfl rfl) ?_
      refine gv_I (k_X12_waitsFor l w v2 σ) cv_X12_385 sM_0 (Nat.le_of_ble_eq_true rfl) rfl rfl (Nat.le_of_ble_eq_true rfl) d_X12_circles_13 rfl (fun x4 => ?_)
      refine gg_st (go_istore_n 3 d_X12_circles_16 rfl (by decide) (L' := [some (.ref (0)), some (.int v1), some (.int v2), some (.int x4), none]) rfl rfl) ?_
      refine gg_st (go_iconst d_X12_circles_17 ci_0 rfl) ?_
      refine gg_st (go_istore 4 d_X12_circles_18 (by decide) (L' := [some (.ref (0)), some (.int v1), some (.int v2), some (.int x4), some (.int (0 : Int32))]) rfl rfl) ?_
      refine gg_bind 45 (fun (t12 : Int32) => [some (.ref (0)), some (.int v1), some (.int v2), some (.int t12), none]) (fun (t12 : Int32) => []) (fun (t12 : Int32) => σ) (g_f_X12_circles_L20 l w F v1 v2 σ F x4 (0 : Int32)) (fun t12 => ?_)
      refine gg_st (go_iload_n 1 d_X12_circles_45 rfl rfl rfl) ?_
      refine gg_st (go_iload_n 3 d_X12_circles_46 rfl rfl rfl) ?_
      refine gg_st (go_iload_n 2 d_X12_circles_47 rfl rfl rfl) ?_
      refine gg_bind 56 (fun (t13 : Int32) => [some (.ref (0)), none, some (.int v2), none, none]) (fun (t13 : Int32) => [.int t13, .int v1]) (fun (t13 : Int32) => σ) ?_ (fun t13 => ?_)
      · refine gg_br (br_icmp_ne (tgt := 55) (pc' := 51) d_X12_circles_48 (by decide) rfl) (fun h14 => ?_) (fun h14 => ?_)
        · refine gg_st (go_iconst d_X12_circles_51 ci_1 rfl) ?_
          refine gg_st (go_goto (pc' := 56) d_X12_circles_52 (by decide)) ?_
          refine gg_st (go_fg [some (.ref (0)), none, some (.int v2), none, none] ⟨rfl, ⟨rfl, trivial⟩⟩) ?_
          exact gg_end rfl
        · refine gg_st (go_iconst d_X12_circles_55 ci_0 rfl) ?_
          refine gg_st (go_fg [some (.ref (0)), none, some (.int v2), none, none] ⟨rfl, ⟨rfl, trivial⟩⟩) ?_
          exact gg_end rfl
      · refine gg_st (go_iadd d_X12_circles_56 rfl) ?_
        refine gg_nm (fun _ => [some (.ref (0)), none, some (.int v2), none, none]) (fun (x15 : Int32) => [.int x15]) (fun x15 => ?_)
        refine gg_st (go_istore_n 1 d_X12_circles_57 rfl (by decide) (L' := [some (.ref (0)), some (.int x15), some (.int v2), none, none]) rfl rfl) ?_
        refine gg_st (go_iinc 2 d_X12_circles_58 rfl (v := v2 + (1 : Int32)) (by rw [ci_1]) (by decide) (L' := [some (.ref (0)), some (.int x15), some (.int (v2 + (1 : Int32))), none, none]) rfl rfl) ?_
        refine gg_st (go_goto (pc' := 4) d_X12_circles_61 (by decide)) ?_
        exact ih x15 (v2 + (1 : Int32))
    · refine gg_st (go_fg [none, some (.int v1), none, none, none] ⟨rfl, trivial⟩) ?_
      exact gg_end rfl
set_option maxRecDepth 20000 in
theorem k_X12_circles (l : Launch) (w : Wo) (F : Nat) (σ : St) : K l w shM m_X12_circles 2 [.ref (0)] σ (f_X12_circles F σ) (rI σ) := by
  refine k_of (L := [some (.ref (0)), none, none, none, none]) (plainFor_of_name (by decide +kernel)) 4 rfl (Nat.le_of_ble_eq_true rfl) ?_
  unfold f_X12_circles
  refine gg_st (go_iconst d_X12_circles_0 ci_0 rfl) ?_
  refine gg_st (go_istore_n 1 d_X12_circles_1 rfl (by decide) (L' := [some (.ref (0)), some (.int (0 : Int32)), none, none, none]) rfl rfl) ?_
  refine gg_st (go_iconst d_X12_circles_2 ci_0 rfl) ?_
  refine gg_st (go_istore_n 2 d_X12_circles_3 rfl (by decide) (L' := [some (.ref (0)), some (.int (0 : Int32)), some (.int (0 : Int32)), none, none]) rfl rfl) ?_
  refine gg_bind 64 (fun (t16 : Int32) => [none, some (.int t16), none, none, none]) (fun (t16 : Int32) => []) (fun (t16 : Int32) => σ) (g_f_X12_circles_L4 l w F σ F (0 : Int32) (0 : Int32)) (fun t16 => ?_)
  refine gg_st (go_iload_n 1 d_X12_circles_64 rfl rfl rfl) ?_
  exact gg_iret rfl d_X12_circles_65 rfl
def f_X12_count (F : Nat) (p1 : Int32) (σ : St) : Option (Int32) :=
  if p1 = 0 then (
    some (σ.1 (0) 3))
  else (
    if p1 = 1 then (
      some (σ.1 (0) 8))
    else (
      if p1 = 2 then (
        Option.bind (f_X12_agentMany F σ) fun x1 =>
        some x1)
      else (
        if p1 = 3 then (
          some (σ.1 (0) 18))
        else (
          if p1 = 4 then (
            some (σ.1 (0) 19))
          else (
            if p1 = 5 then (
              Option.bind (f_X12_pairs F (1 : Int32) σ) fun x2 =>
              some x2)
            else (
              if p1 = 6 then (
                Option.bind (f_X12_pairs F (0 : Int32) σ) fun x3 =>
                some x3)
              else (
                if p1 = 7 then (
                  Option.bind (f_X12_circles F σ) fun x4 =>
                  some x4)
                else (
                  if p1 = 8 then (
                    some (σ.1 (0) 20))
                  else (
                    if p1 = 9 then (
                      some (σ.1 (0) 21))
                    else (
                      if p1 = 10 then (
                        some (σ.1 (0) 22))
                      else (
                        if p1 = 11 then (
                          some (σ.1 (0) 23))
                        else (
                          if p1 = 12 then (
                            some (σ.1 (0) 28))
                          else (
                            some (-1002 : Int32))))))))))))))
set_option maxRecDepth 20000 in
theorem k_X12_count (l : Launch) (w : Wo) (F : Nat) (p1 : Int32) (σ : St) : K l w shM m_X12_count 4 [.ref (0), .int p1] σ (f_X12_count F p1 σ) (rI σ) := by
  refine k_of (L := [some (.ref (0)), some (.int p1)]) (plainFor_of_name (by decide +kernel)) 0 rfl (Nat.le_of_ble_eq_true rfl) ?_
  unfold f_X12_count
  refine gg_st (go_iload_n 1 d_X12_count_0 rfl rfl rfl) ?_
  refine gg_ite (fun h1_0 => ?_) (fun h1_0 => ?_)
  · refine gg_st (go_tableIn (pc' := 68) (by rw [h1_0]; decide) (by rw [h1_0]; decide) (by rw [h1_0]; rfl) (by decide) d_X12_count_1) ?_
    refine gg_st (go_aload_n 0 d_X12_count_68 rfl rfl rfl) ?_
    refine gg_st (go_getI (j := 3) cf12 sM_0 rfl (by decide) fl_X12_354 d_X12_count_69 rfl) ?_
    exact gg_iret rfl d_X12_count_72 rfl
  · refine gg_ite (fun h1_1 => ?_) (fun h1_1 => ?_)
    · refine gg_st (go_tableIn (pc' := 73) (by rw [h1_1]; decide) (by rw [h1_1]; decide) (by rw [h1_1]; rfl) (by decide) d_X12_count_1) ?_
      refine gg_st (go_aload_n 0 d_X12_count_73 rfl rfl rfl) ?_
      refine gg_st (go_getI (j := 8) cf12 sM_0 rfl (by decide) fl_X12_357 d_X12_count_74 rfl) ?_
      exact gg_iret rfl d_X12_count_77 rfl
    · refine gg_ite (fun h1_2 => ?_) (fun h1_2 => ?_)
      · refine gg_st (go_tableIn (pc' := 78) (by rw [h1_2]; decide) (by rw [h1_2]; decide) (by rw [h1_2]; rfl) (by decide) d_X12_count_1) ?_
        refine gg_st (go_aload_n 0 d_X12_count_78 rfl rfl rfl) ?_
        refine gv_I (k_X12_agentMany l w F  σ) cv_X12_388 sM_0 (Nat.le_of_ble_eq_true rfl) rfl rfl (Nat.le_of_ble_eq_true rfl) d_X12_count_79 rfl (fun x1 => ?_)
        exact gg_iret rfl d_X12_count_82 rfl
      · refine gg_ite (fun h1_3 => ?_) (fun h1_3 => ?_)
        · refine gg_st (go_tableIn (pc' := 83) (by rw [h1_3]; decide) (by rw [h1_3]; decide) (by rw [h1_3]; rfl) (by decide) d_X12_count_1) ?_
          refine gg_st (go_aload_n 0 d_X12_count_83 rfl rfl rfl) ?_
          refine gg_st (go_getI (j := 18) cf12 sM_0 rfl (by decide) fl_X12_182 d_X12_count_84 rfl) ?_
          exact gg_iret rfl d_X12_count_87 rfl
        · refine gg_ite (fun h1_4 => ?_) (fun h1_4 => ?_)
          · refine gg_st (go_tableIn (pc' := 88) (by rw [h1_4]; decide) (by rw [h1_4]; decide) (by rw [h1_4]; rfl) (by decide) d_X12_count_1) ?_
            refine gg_st (go_aload_n 0 d_X12_count_88 rfl rfl rfl) ?_
            refine gg_st (go_getI (j := 19) cf12 sM_0 rfl (by decide) fl_X12_185 d_X12_count_89 rfl) ?_
            exact gg_iret rfl d_X12_count_92 rfl
          · refine gg_ite (fun h1_5 => ?_) (fun h1_5 => ?_)
            · refine gg_st (go_tableIn (pc' := 93) (by rw [h1_5]; decide) (by rw [h1_5]; decide) (by rw [h1_5]; rfl) (by decide) d_X12_count_1) ?_
              refine gg_st (go_aload_n 0 d_X12_count_93 rfl rfl rfl) ?_
              refine gg_st (go_iconst d_X12_count_94 ci_1 rfl) ?_
              refine gv_I (k_X12_pairs l w F (1 : Int32) σ) cv_X12_391 sM_0 (Nat.le_of_ble_eq_true rfl) rfl rfl (Nat.le_of_ble_eq_true rfl) d_X12_count_95 rfl (fun x2 => ?_)
              exact gg_iret rfl d_X12_count_98 rfl
            · refine gg_ite (fun h1_6 => ?_) (fun h1_6 => ?_)
              · refine gg_st (go_tableIn (pc' := 99) (by rw [h1_6]; decide) (by rw [h1_6]; decide) (by rw [h1_6]; rfl) (by decide) d_X12_count_1) ?_
                refine gg_st (go_aload_n 0 d_X12_count_99 rfl rfl rfl) ?_
                refine gg_st (go_iconst d_X12_count_100 ci_0 rfl) ?_
                refine gv_I (k_X12_pairs l w F (0 : Int32) σ) cv_X12_391 sM_0 (Nat.le_of_ble_eq_true rfl) rfl rfl (Nat.le_of_ble_eq_true rfl) d_X12_count_101 rfl (fun x3 => ?_)
                exact gg_iret rfl d_X12_count_104 rfl
              · refine gg_ite (fun h1_7 => ?_) (fun h1_7 => ?_)
                · refine gg_st (go_tableIn (pc' := 105) (by rw [h1_7]; decide) (by rw [h1_7]; decide) (by rw [h1_7]; rfl) (by decide) d_X12_count_1) ?_
                  refine gg_st (go_aload_n 0 d_X12_count_105 rfl rfl rfl) ?_
                  refine gv_I (k_X12_circles l w F  σ) cv_X12_395 sM_0 (Nat.le_of_ble_eq_true rfl) rfl rfl (Nat.le_of_ble_eq_true rfl) d_X12_count_106 rfl (fun x4 => ?_)
                  exact gg_iret rfl d_X12_count_109 rfl
                · refine gg_ite (fun h1_8 => ?_) (fun h1_8 => ?_)
                  · refine gg_st (go_tableIn (pc' := 110) (by rw [h1_8]; decide) (by rw [h1_8]; decide) (by rw [h1_8]; rfl) (by decide) d_X12_count_1) ?_
                    refine gg_st (go_aload_n 0 d_X12_count_110 rfl rfl rfl) ?_
                    refine gg_st (go_getI (j := 20) cf12 sM_0 rfl (by decide) fl_X12_360 d_X12_count_111 rfl) ?_
                    exact gg_iret rfl d_X12_count_114 rfl
                  · refine gg_ite (fun h1_9 => ?_) (fun h1_9 => ?_)
                    · refine gg_st (go_tableIn (pc' := 115) (by rw [h1_9]; decide) (by rw [h1_9]; decide) (by rw [h1_9]; rfl) (by decide) d_X12_count_1) ?_
                      refine gg_st (go_aload_n 0 d_X12_count_115 rfl rfl rfl) ?_
                      refine gg_st (go_getI (j := 21) cf12 sM_0 rfl (by decide) fl_X12_363 d_X12_count_116 rfl) ?_
                      exact gg_iret rfl d_X12_count_119 rfl
                    · refine gg_ite (fun h1_10 => ?_) (fun h1_10 => ?_)
                      · refine gg_st (go_tableIn (pc' := 120) (by rw [h1_10]; decide) (by rw [h1_10]; decide) (by rw [h1_10]; rfl) (by decide) d_X12_count_1) ?_
                        refine gg_st (go_aload_n 0 d_X12_count_120 rfl rfl rfl) ?_
                        refine gg_st (go_getI (j := 22) cf12 sM_0 rfl (by decide) fl_X12_366 d_X12_count_121 rfl) ?_
                        exact gg_iret rfl d_X12_count_124 rfl
                      · refine gg_ite (fun h1_11 => ?_) (fun h1_11 => ?_)
                        · refine gg_st (go_tableIn (pc' := 125) (by rw [h1_11]; decide) (by rw [h1_11]; decide) (by rw [h1_11]; rfl) (by decide) d_X12_count_1) ?_
                          refine gg_st (go_aload_n 0 d_X12_count_125 rfl rfl rfl) ?_
                          refine gg_st (go_getI (j := 23) cf12 sM_0 rfl (by decide) fl_X12_398 d_X12_count_126 rfl) ?_
                          exact gg_iret rfl d_X12_count_129 rfl
                        · refine gg_ite (fun h1_12 => ?_) (fun h1_12 => ?_)
                          · refine gg_st (go_tableIn (pc' := 130) (by rw [h1_12]; decide) (by rw [h1_12]; decide) (by rw [h1_12]; rfl) (by decide) d_X12_count_1) ?_
                            refine gg_st (go_aload_n 0 d_X12_count_130 rfl rfl rfl) ?_
                            refine gg_st (go_getI (j := 28) cf12 sM_0 rfl (by decide) fl_X12_401 d_X12_count_131 rfl) ?_
                            exact gg_iret rfl d_X12_count_134 rfl
                          · refine gg_st (go_tableOut (pc' := 135) (sw_out13 h1_0 h1_1 h1_2 h1_3 h1_4 h1_5 h1_6 h1_7 h1_8 h1_9 h1_10 h1_11 h1_12) (by decide) d_X12_count_1) ?_
                            refine gg_st (go_sipush d_X12_count_135 cs_m1002 rfl) ?_
                            exact gg_iret rfl d_X12_count_138 rfl
def f_X12_cut (p1 : Int32) (σ : St) : Option (Int32 × St) :=
  Option.bind (some (f_X12_in (p1.toInt64) (0 : Int64) ((σ.1 (0) 1).toInt64))) fun x1 =>
  if x1 = 0 then (
    some ((-1002 : Int32), σ))
  else (
    Option.bind (some ((σ.1 (0) 1) - p1)) fun x3 =>
    Option.bind (some (seti σ (0) 1 p1)) fun s4 =>
    some (x3, s4))
set_option maxRecDepth 20000 in
theorem k_X12_cut (l : Launch) (w : Wo) (p1 : Int32) (σ : St) : K l w shM m_X12_cut 2 [.ref (0), .int p1] σ (f_X12_cut p1 σ) (rIS) := by
  refine k_of (L := [some (.ref (0)), some (.int p1), none]) (plainFor_of_name (by decide +kernel)) 1 rfl (Nat.le_of_ble_eq_true rfl) ?_
  unfold f_X12_cut
  refine gg_st (go_iload_n 1 d_X12_cut_0 rfl rfl rfl) ?_
  refine gg_st (go_i2l d_X12_cut_1 rfl) ?_
  refine gg_st (go_lconst d_X12_cut_2 (v := (0 : Int64)) (by decide) rfl) ?_
  refine gg_st (go_aload_n 0 d_X12_cut_3 rfl rfl rfl) ?_
  refine gg_st (go_getI (j := 1) cf12 sM_0 rfl (by decide) fl_X12_188 d_X12_cut_4 rfl) ?_
  refine gg_st (go_i2l d_X12_cut_7 rfl) ?_
  refine gs_I (k_X12_in l w (p1.toInt64) (0 : Int64) ((σ.1 (0) 1).toInt64) σ) cs_X12_191 (Nat.le_of_ble_eq_true rfl) rfl rfl (Nat.le_of_ble_eq_true rfl) d_X12_cut_8 rfl (fun x1 => ?_)
  refine gg_br (br_if_ne (tgt := 18) (pc' := 14) d_X12_cut_11 (by decide) rfl) (fun h2 => ?_) (fun h2 => ?_)
  · refine gg_st (go_sipush d_X12_cut_14 cs_m1002 rfl) ?_
    exact gg_iret rfl d_X12_cut_17 rfl
  · refine gg_st (go_aload_n 0 d_X12_cut_18 rfl rfl rfl) ?_
    refine gg_st (go_getI (j := 1) cf12 sM_0 rfl (by decide) fl_X12_188 d_X12_cut_19 rfl) ?_
    refine gg_st (go_iload_n 1 d_X12_cut_22 rfl rfl rfl) ?_
    refine gg_st (go_isub d_X12_cut_23 rfl) ?_
    refine gg_nm (fun _ => [some (.ref (0)), some (.int p1), none]) (fun (x3 : Int32) => [.int x3]) (fun x3 => ?_)
    refine gg_st (go_istore_n 2 d_X12_cut_24 rfl (by decide) (L' := [some (.ref (0)), some (.int p1), some (.int x3)]) rfl rfl) ?_
    refine gg_st (go_aload_n 0 d_X12_cut_25 rfl rfl rfl) ?_
    refine gg_st (go_iload_n 1 d_X12_cut_26 rfl rfl rfl) ?_
    refine gg_st (go_putI (j := 1) cf12 sM_0 rfl (by decide) rfl rfl fl_X12_188 d_X12_cut_27 rfl) ?_
    refine gg_som (fun s4 => ?_)
    refine gg_st (go_iload_n 2 d_X12_cut_30 rfl rfl rfl) ?_
    exact gg_iret rfl d_X12_cut_31 rfl
def f_X12_findOuter_L2 (F : Nat) (c1 : Int32) (c2 : Int32) : Nat → Int32 → St → Option (St)
  | 0, _, _ => none
  | n + 1, v1, g =>
    if v1 < (10 : Int32) then (
      Option.bind (
        if v1 < (5 : Int32) then (
          some c1)
        else (
          some c2)) fun t3 =>
      if inb v1 10 then (
        Option.bind (some (seti g (41) (ix v1) (0 : Int32))) fun s6 =>
        if inb v1 10 then (
          Option.bind (some (seti s6 (40) (ix v1) (0 : Int32))) fun s8 =>
          Option.bind (
            if 0 < (v1 - v1 / (5 : Int32) * (5 : Int32)) then (
              if inb t3 400 then (
                if inb (s8.1 (12) (ix t3)) 16 then (
                  if (v1 - v1 / (5 : Int32) * (5 : Int32)) < (s8.1 (3) (ix (s8.1 (12) (ix t3)))) then (
                    if inb (((5 : Int32) * t3) + (v1 - v1 / (5 : Int32) * (5 : Int32))) 2000 then (
                      Option.bind (some (s8.1 (13) (ix (((5 : Int32) * t3) + (v1 - v1 / (5 : Int32) * (5 : Int32)))))) fun x17 =>
                      Option.bind (
                        if (0 ≤ x17) ∧ (((x17 / (5 : Int32)) = c1) ∨ ((x17 / (5 : Int32)) = c2)) then (
                          some (1 : Int32))
                        else (
                          some (0 : Int32))) fun t18 =>
                      Option.bind (
                        if t18 = 0 then (
                          some x17)
                        else (
                          Option.bind (
                            if (x17 / (5 : Int32)) = c1 then (
                              some (0 : Int32))
                            else (
                              some (5 : Int32))) fun t26 =>
                          some (((10000 : Int32) + t26) + (x17 - x17 / (5 : Int32) * (5 : Int32))))) fun t24 =>
                      if inb v1 10 then (
                        Option.bind (some (seti s8 (40) (ix v1) t24)) fun s29 =>
                        some s29)
                      else none)
                    else none)
                  else (
                    some s8))
                else none)
              else none)
            else (
              some s8)) fun t9 =>
          f_X12_findOuter_L2 F c1 c2 n (v1 + (1 : Int32)) t9)
        else none)
      else none)
    else (
      some g)
def f_X12_findOuter (F : Nat) (p1 : Int32) (p2 : Int32) (σ : St) : Option (St) :=
  Option.bind (f_X12_findOuter_L2 F p1 p2 F (0 : Int32) σ) fun t30 =>
  some t30
set_option maxRecDepth 20000 in
theorem g_f_X12_findOuter_L2 (l : Launch) (w : Wo) (F : Nat) (c1 : Int32) (c2 : Int32) : ∀ (n : Nat) (v1 : Int32) (g : St), GG l w shM m_X12_findOuter 1 2 [some (.ref (0)), some (.int c1), some (.int c2), some (.int v1), none, none, none] [] g (f_X12_findOuter_L2 F c1 c2 n v1 g) (fun (t : St) => .inl (145, [none, none, none, none, none, none, none], [], t)) := by
  intro n
  induction n with
  | zero =>
    intro v1 g
    exact gg_none
  | succ n ih =>
    intro v1 g
    rw [f_X12_findOuter_L2]
    refine gg_st (go_iload_n 3 d_X12_findOuter_2 rfl rfl rfl) ?_
    refine gg_st (go_bipush d_X12_findOuter_3 cb_10 rfl) ?_
    refine gg_br (br_icmp_ge (tgt := 145) (pc' := 8) d_X12_findOuter_5 (by decide) rfl) (fun h2 => ?_) (fun h2 => ?_)
    · refine gg_st (go_iload_n 3 d_X12_findOuter_8 rfl rfl rfl) ?_
      refine gg_st (go_iconst d_X12_findOuter_9 ci_5 rfl) ?_
      refine gg_bind 18 (fun (t3 : Int32) => [some (.ref (0)), some (.int c1), some (.int c2), some (.int v1), none, none, none]) (fun (t3 : Int32) => [.int t3]) (fun (t3 : Int32) => g) ?_ (fun t3 => ?_)
      · refine gg_br (br_icmp_ge (tgt := 17) (pc' := 13) d_X12_findOuter_10 (by decide) rfl) (fun h4 => ?_) (fun h4 => ?_)
        · refine gg_st (go_iload_n 1 d_X12_findOuter_13 rfl rfl rfl) ?_
          refine gg_st (go_goto (pc' := 18) d_X12_findOuter_14 (by decide)) ?_
          exact gg_end rfl
        · refine gg_st (go_iload_n 2 d_X12_findOuter_17 rfl rfl rfl) ?_
          exact gg_end rfl
      · refine gg_st (go_istore 4 d_X12_findOuter_18 (by decide) (L' := [some (.ref (0)), some (.int c1), some (.int c2), some (.int v1), some (.int t3), none, none]) rfl rfl) ?_
        refine gg_st (go_aload_n 0 d_X12_findOuter_20 rfl rfl rfl) ?_
        refine gg_st (go_getR (j := 70) cf12 sM_0 rfl (by decide) fl_X12_140 d_X12_findOuter_21 rfl) ?_
        refine gg_st (go_iload_n 3 d_X12_findOuter_24 rfl rfl rfl) ?_
        refine gg_st (go_iconst d_X12_findOuter_25 ci_0 rfl) ?_
        refine gg_gd (fun h5 => ?_)
        refine gg_st (go_zast (Or.inl rfl) sM_41 h5 d_X12_findOuter_26 rfl) ?_
        refine gg_som (fun s6 => ?_)
        refine gg_st (go_aload_n 0 d_X12_findOuter_27 rfl rfl rfl) ?_
        refine gg_st (go_getR (j := 69) cf12 sM_0 rfl (by decide) fl_X12_137 d_X12_findOuter_28 rfl) ?_
        refine gg_st (go_iload_n 3 d_X12_findOuter_31 rfl rfl rfl) ?_
        refine gg_st (go_iconst d_X12_findOuter_32 ci_0 rfl) ?_
        refine gg_gd (fun h7 => ?_)
        refine gg_st (go_iast sM_40 h7 d_X12_findOuter_33 rfl) ?_
        refine gg_som (fun s8 => ?_)
        refine gg_st (go_iload_n 3 d_X12_findOuter_34 rfl rfl rfl) ?_
        refine gg_st (go_iconst d_X12_findOuter_35 ci_5 rfl) ?_
        refine gg_st (go_irem d_X12_findOuter_36 (by decide) rfl) ?_
        refine gg_bind 139 (fun (t9 : St) => [some (.ref (0)), some (.int c1), some (.int c2), some (.int v1), none, none, none]) (fun (t9 : St) => []) (fun (t9 : St) => t9) ?_ (fun t9 => ?_)
        · refine gg_br (br_if_le (tgt := 139) (pc' := 40) d_X12_findOuter_37 (by decide) rfl) (fun h11 => ?_) (fun h11 => ?_)
          · refine gg_st (go_iload_n 3 d_X12_findOuter_40 rfl rfl rfl) ?_
            refine gg_st (go_iconst d_X12_findOuter_41 ci_5 rfl) ?_
            refine gg_st (go_irem d_X12_findOuter_42 (by decide) rfl) ?_
            refine gg_st (go_aload_n 0 d_X12_findOuter_43 rfl rfl rfl) ?_
            refine gg_st (go_getR (j := 5) cf12 sM_0 rfl (by decide) fl_X12_21 d_X12_findOuter_44 rfl) ?_
            refine gg_st (go_aload_n 0 d_X12_findOuter_47 rfl rfl rfl) ?_
            refine gg_st (go_getR (j := 15) cf12 sM_0 rfl (by decide) fl_X12_49 d_X12_findOuter_48 rfl) ?_
            refine gg_st (go_iload 4 d_X12_findOuter_51 rfl rfl) ?_
            refine gg_gd (fun h12 => ?_)
            refine gg_st (go_iald sM_12 h12 d_X12_findOuter_53 rfl) ?_
            refine gg_gd (fun h13 => ?_)
            refine gg_st (go_iald sM_3 h13 d_X12_findOuter_54 rfl) ?_
            refine gg_br (br_icmp_ge (tgt := 139) (pc' := 58) d_X12_findOuter_55 (by decide) rfl) (fun h15 => ?_) (fun h15 => ?_)
            · refine gg_st (go_aload_n 0 d_X12_findOuter_58 rfl rfl rfl) ?_
              refine gg_st (go_getR (j := 16) cf12 sM_0 rfl (by decide) fl_X12_52 d_X12_findOuter_59 rfl) ?_
              refine gg_st (go_iconst d_X12_findOuter_62 ci_5 rfl) ?_
              refine gg_st (go_iload 4 d_X12_findOuter_63 rfl rfl) ?_
              refine gg_st (go_imul d_X12_findOuter_65 rfl) ?_
              refine gg_st (go_iload_n 3 d_X12_findOuter_66 rfl rfl rfl) ?_
              refine gg_st (go_iconst d_X12_findOuter_67 ci_5 rfl) ?_
              refine gg_st (go_irem d_X12_findOuter_68 (by decide) rfl) ?_
              refine gg_st (go_iadd d_X12_findOuter_69 rfl) ?_
              refine gg_gd (fun h16 => ?_)
              refine gg_st (go_iald sM_13 h16 d_X12_findOuter_70 rfl) ?_
              refine gg_nm (fun _ => [some (.ref (0)), some (.int c1), some (.int c2), some (.int v1), some (.int t3), none, none]) (fun (x17 : Int32) => [.int x17]) (fun x17 => ?_)
              refine gg_st (go_istore 5 d_X12_findOuter_71 (by decide) (L' := [some (.ref (0)), some (.int c1), some (.int c2), some (.int v1), some (.int t3), some (.int x17), none]) rfl rfl) ?_
              refine gg_st (go_iload 5 d_X12_findOuter_73 rfl rfl) ?_
              refine gg_bind 99 (fun (t18 : Int32) => [some (.ref (0)), some (.int c1), some (.int c2), some (.int v1), none, some (.int x17), none]) (fun (t18 : Int32) => [.int t18]) (fun (t18 : Int32) => s8) ?_ (fun t18 => ?_)
              · refine gg_two (c := (0 ≤ x17) ∧ (((x17 / (5 : Int32)) = c1) ∨ ((x17 / (5 : Int32)) = c2))) (pA := 94) (pB := 98) (LL := [some (.ref (0)), some (.int c1), some (.int c2), some (.int v1), some (.int t3), some (.int x17), none]) (ss := []) ?_ ?_ (fun hA19 hB20 => ?_)
                · refine gg_st (go_iconst d_X12_findOuter_94 ci_1 rfl) ?_
                  refine gg_st (go_goto (pc' := 99) d_X12_findOuter_95 (by decide)) ?_
                  refine gg_st (go_fg [some (.ref (0)), some (.int c1), some (.int c2), some (.int v1), none, some (.int x17), none] ⟨rfl, ⟨rfl, ⟨rfl, ⟨rfl, ⟨rfl, trivial⟩⟩⟩⟩⟩) ?_
                  exact gg_end rfl
                · refine gg_st (go_iconst d_X12_findOuter_98 ci_0 rfl) ?_
                  refine gg_st (go_fg [some (.ref (0)), some (.int c1), some (.int c2), some (.int v1), none, some (.int x17), none] ⟨rfl, ⟨rfl, ⟨rfl, ⟨rfl, ⟨rfl, trivial⟩⟩⟩⟩⟩) ?_
                  exact gg_end rfl
                refine gg_brs (br_if_lt (tgt := 98) (pc' := 78) d_X12_findOuter_75 (by decide) rfl) (fun h21 => ?_) (fun h21 => ?_)
                · refine gg_st (go_iload 5 d_X12_findOuter_78 rfl rfl) ?_
                  refine gg_st (go_iconst d_X12_findOuter_80 ci_5 rfl) ?_
                  refine gg_st (go_idiv d_X12_findOuter_81 (by decide) rfl) ?_
                  refine gg_st (go_iload_n 1 d_X12_findOuter_82 rfl rfl rfl) ?_
                  refine gg_brs (br_icmp_eq (tgt := 94) (pc' := 86) d_X12_findOuter_83 (by decide) rfl) (fun h22 => ?_) (fun h22 => ?_)
                  · exact gg_eq (if_pos ⟨h21, (Or.inl h22)⟩) hA19
                  · refine gg_st (go_iload 5 d_X12_findOuter_86 rfl rfl) ?_
                    refine gg_st (go_iconst d_X12_findOuter_88 ci_5 rfl) ?_
                    refine gg_st (go_idiv d_X12_findOuter_89 (by decide) rfl) ?_
                    refine gg_st (go_iload_n 2 d_X12_findOuter_90 rfl rfl rfl) ?_
                    refine gg_brs (br_icmp_ne (tgt := 98) (pc' := 94) d_X12_findOuter_91 (by decide) rfl) (fun h23 => ?_) (fun h23 => ?_)
                    · exact gg_eq (if_pos ⟨h21, (Or.inr h23)⟩) hA19
                    · exact gg_eq (if_neg (fun z => (fun z => z.elim h22 h23) z.2)) hB20
                · exact gg_eq (if_neg (fun z => h21 z.1)) hB20
              · refine gg_st (go_istore 6 d_X12_findOuter_99 (by decide) (L' := [some (.ref (0)), some (.int c1), some (.int c2), some (.int v1), none, some (.int x17), some (.int t18)]) rfl rfl) ?_
                refine gg_st (go_aload_n 0 d_X12_findOuter_101 rfl rfl rfl) ?_
                refine gg_st (go_getR (j := 69) cf12 sM_0 rfl (by decide) fl_X12_137 d_X12_findOuter_102 rfl) ?_
                refine gg_st (go_iload_n 3 d_X12_findOuter_105 rfl rfl rfl) ?_
                refine gg_st (go_iload 6 d_X12_findOuter_106 rfl rfl) ?_
                refine gg_bind 138 (fun (t24 : Int32) => [some (.ref (0)), some (.int c1), some (.int c2), some (.int v1), none, none, none]) (fun (t24 : Int32) => [.int t24, .int v1, .ref (40)]) (fun (t24 : Int32) => s8) ?_ (fun t24 => ?_)
                · refine gg_br (br_if_ne (tgt := 116) (pc' := 111) d_X12_findOuter_108 (by decide) rfl) (fun h25 => ?_) (fun h25 => ?_)
                  · refine gg_st (go_iload 5 d_X12_findOuter_111 rfl rfl) ?_
                    refine gg_st (go_goto (pc' := 138) d_X12_findOuter_113 (by decide)) ?_
                    refine gg_st (go_fg [some (.ref (0)), some (.int c1), some (.int c2), some (.int v1), none, none, none] ⟨rfl, ⟨rfl, ⟨rfl, ⟨rfl, trivial⟩⟩⟩⟩) ?_
                    exact gg_end rfl
                  · refine gg_st (go_sipush d_X12_findOuter_116 cs_10000 rfl) ?_
                    refine gg_st (go_iload 5 d_X12_findOuter_119 rfl rfl) ?_
                    refine gg_st (go_iconst d_X12_findOuter_121 ci_5 rfl) ?_
                    refine gg_st (go_idiv d_X12_findOuter_122 (by decide) rfl) ?_
                    refine gg_st (go_iload_n 1 d_X12_findOuter_123 rfl rfl rfl) ?_
                    refine gg_bind 132 (fun (t26 : Int32) => [some (.ref (0)), some (.int c1), some (.int c2), some (.int v1), none, some (.int x17), none]) (fun (t26 : Int32) => [.int t26, .int (10000 : Int32), .int v1, .ref (40)]) (fun (t26 : Int32) => s8) ?_ (fun t26 => ?_)
                    · refine gg_br (br_icmp_ne (tgt := 131) (pc' := 127) d_X12_findOuter_124 (by decide) rfl) (fun h27 => ?_) (fun h27 => ?_)
                      · refine gg_st (go_iconst d_X12_findOuter_127 ci_0 rfl) ?_
                        refine gg_st (go_goto (pc' := 132) d_X12_findOuter_128 (by decide)) ?_
                        refine gg_st (go_fg [some (.ref (0)), some (.int c1), some (.int c2), some (.int v1), none, some (.int x17), none] ⟨rfl, ⟨rfl, ⟨rfl, ⟨rfl, ⟨rfl, trivial⟩⟩⟩⟩⟩) ?_
                        exact gg_end rfl
                      · refine gg_st (go_iconst d_X12_findOuter_131 ci_5 rfl) ?_
                        refine gg_st (go_fg [some (.ref (0)), some (.int c1), some (.int c2), some (.int v1), none, some (.int x17), none] ⟨rfl, ⟨rfl, ⟨rfl, ⟨rfl, ⟨rfl, trivial⟩⟩⟩⟩⟩) ?_
                        exact gg_end rfl
                    · refine gg_st (go_iadd d_X12_findOuter_132 rfl) ?_
                      refine gg_st (go_iload 5 d_X12_findOuter_133 rfl rfl) ?_
                      refine gg_st (go_iconst d_X12_findOuter_135 ci_5 rfl) ?_
                      refine gg_st (go_irem d_X12_findOuter_136 (by decide) rfl) ?_
                      refine gg_st (go_iadd d_X12_findOuter_137 rfl) ?_
                      refine gg_st (go_fg [some (.ref (0)), some (.int c1), some (.int c2), some (.int v1), none, none, none] ⟨rfl, ⟨rfl, ⟨rfl, ⟨rfl, trivial⟩⟩⟩⟩) ?_
                      exact gg_end rfl
                · refine gg_gd (fun h28 => ?_)
                  refine gg_st (go_iast sM_40 h28 d_X12_findOuter_138 rfl) ?_
                  refine gg_som (fun s29 => ?_)
                  exact gg_end rfl
            · refine gg_st (go_fg [some (.ref (0)), some (.int c1), some (.int c2), some (.int v1), none, none, none] ⟨rfl, ⟨rfl, ⟨rfl, ⟨rfl, trivial⟩⟩⟩⟩) ?_
              exact gg_end rfl
          · refine gg_st (go_fg [some (.ref (0)), some (.int c1), some (.int c2), some (.int v1), none, none, none] ⟨rfl, ⟨rfl, ⟨rfl, ⟨rfl, trivial⟩⟩⟩⟩) ?_
            exact gg_end rfl
        · refine gg_st (go_iinc 3 d_X12_findOuter_139 rfl (v := v1 + (1 : Int32)) (by rw [ci_1]) (by decide) (L' := [some (.ref (0)), some (.int c1), some (.int c2), some (.int (v1 + (1 : Int32))), none, none, none]) rfl rfl) ?_
          refine gg_st (go_goto (pc' := 2) d_X12_findOuter_142 (by decide)) ?_
          exact ih (v1 + (1 : Int32)) t9
    · refine gg_st (go_fg [none, none, none, none, none, none, none] trivial) ?_
      exact gg_end rfl
set_option maxRecDepth 20000 in
theorem k_X12_findOuter (l : Launch) (w : Wo) (F : Nat) (p1 : Int32) (p2 : Int32) (σ : St) : K l w shM m_X12_findOuter 1 [.ref (0), .int p1, .int p2] σ (f_X12_findOuter F p1 p2 σ) (rV) := by
  refine k_of (L := [some (.ref (0)), some (.int p1), some (.int p2), none, none, none, none]) (plainFor_of_name (by decide +kernel)) 4 rfl (Nat.le_of_ble_eq_true rfl) ?_
  unfold f_X12_findOuter
  refine gg_st (go_iconst d_X12_findOuter_0 ci_0 rfl) ?_
  refine gg_st (go_istore_n 3 d_X12_findOuter_1 rfl (by decide) (L' := [some (.ref (0)), some (.int p1), some (.int p2), some (.int (0 : Int32)), none, none, none]) rfl rfl) ?_
  refine gg_bind 145 (fun (t30 : St) => [none, none, none, none, none, none, none]) (fun (t30 : St) => []) (fun (t30 : St) => t30) (g_f_X12_findOuter_L2 l w F p1 p2 F (0 : Int32) σ) (fun t30 => ?_)
  exact gg_vret rfl d_X12_findOuter_145 rfl
