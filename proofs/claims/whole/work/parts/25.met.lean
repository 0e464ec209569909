def f_X6_endNet (F : Nat) (σ : St) : Option (St) :=
  Option.bind (f_X1_addEnds F σ) fun s1 =>
  if (s1.1 (9) 7) = (59 : Int32) then (
    Option.bind (f_X1_hasNameStanding F (3 : Int32) (4000 : Int32) s1) fun x3 =>
    Option.bind (some (fun (t4 : St) =>
      Option.bind (f_X6_refuse (7 : Int32) t4) fun s6 =>
      some s6)) fun jp5 =>
    if (x3 = 0) ∧ ((s1.1 (2) 7) ≤ (8 : Int32)) then (
      Option.bind (f_X6_agentsFit F s1) fun x7 =>
      if x7.1 = 0 then (
        jp5 x7.2)
      else (
        Option.bind (f_X6_storeNet F x7.2) fun s9 =>
        Option.bind (f_X9_advance s9) fun s10 =>
        some s10))
    else (
      jp5 s1))
  else (
    Option.bind (f_X6_refuseToken s1) fun s15 =>
    some s15)
set_option maxRecDepth 20000 in
theorem k_X6_endNet (l : Launch) (w : Wo) (F : Nat) (σ : St) : K l w shC m_X6_endNet 5 [.ref (1)] σ (f_X6_endNet F σ) (rV) := by
  refine k_of (L := [some (.ref (1))]) (plainFor_of_name (by decide +kernel)) 0 rfl (Nat.le_of_ble_eq_true rfl) ?_
  unfold f_X6_endNet
  refine gg_st (go_aload_n 0 d_X6_endNet_0 rfl rfl rfl) ?_
  refine gg_st (go_getR (j := 0) cf6 sC_1 rfl (by decide) fl_X6_12 d_X6_endNet_1 rfl) ?_
  refine gv_V (k_X1_addEnds l w F  σ) cv_X6_213 sC_2 (Nat.le_of_ble_eq_true rfl) rfl rfl (Nat.le_of_ble_eq_true rfl) d_X6_endNet_4 rfl (fun s1 => ?_)
  refine gg_st (go_aload_n 0 d_X6_endNet_7 rfl rfl rfl) ?_
  refine gg_st (go_getR (j := 5) cf6 sC_1 rfl (by decide) fl_X6_25 d_X6_endNet_8 rfl) ?_
  refine gg_st (go_getI (j := 7) cf9 sC_9 rfl (by decide) fl_X6_53 d_X6_endNet_11 rfl) ?_
  refine gg_st (go_bipush d_X6_endNet_14 cb_59 rfl) ?_
  refine gg_br (br_icmp_eq (tgt := 26) (pc' := 19) d_X6_endNet_16 (by decide) rfl) (fun h2 => ?_) (fun h2 => ?_)
  · refine gg_st (go_aload_n 0 d_X6_endNet_26 rfl rfl rfl) ?_
    refine gg_st (go_getR (j := 0) cf6 sC_1 rfl (by decide) fl_X6_12 d_X6_endNet_27 rfl) ?_
    refine gg_st (go_iconst d_X6_endNet_30 ci_3 rfl) ?_
    refine gg_st (go_sipush d_X6_endNet_31 cs_4000 rfl) ?_
    refine gv_I (k_X1_hasNameStanding l w F (3 : Int32) (4000 : Int32) s1) cv_X6_198 sC_2 (Nat.le_of_ble_eq_true rfl) rfl rfl (Nat.le_of_ble_eq_true rfl) d_X6_endNet_34 rfl (fun x3 => ?_)
    refine gg_jp 59 (fun (t4 : St) => [some (.ref (1))]) (fun (t4 : St) => []) (fun (t4 : St) => t4) (fun t4 => ?_) (fun jp5 hjp5 => ?_)
    · refine gg_st (go_aload_n 0 d_X6_endNet_59 rfl rfl rfl) ?_
      refine gg_st (go_bipush d_X6_endNet_60 cb_7 rfl) ?_
      refine gv_V (k_X6_refuse l w (7 : Int32) t4) cv_X6_101 sC_1 (Nat.le_of_ble_eq_true rfl) rfl rfl (Nat.le_of_ble_eq_true rfl) d_X6_endNet_62 rfl (fun s6 => ?_)
      refine gg_st (go_goto (pc' := 79) d_X6_endNet_65 (by decide)) ?_
      exact gg_vret rfl d_X6_endNet_79 rfl
    refine gg_two (c := (x3 = 0) ∧ ((s1.1 (2) 7) ≤ (8 : Int32))) (pA := 52) (pB := 59) (LL := [some (.ref (1))]) (ss := []) ?_ ?_ (fun hA11 hB12 => ?_)
    · refine gg_st (go_aload_n 0 d_X6_endNet_52 rfl rfl rfl) ?_
      refine gv_IS (k_X6_agentsFit l w F  s1) cv_X6_202 sC_1 (Nat.le_of_ble_eq_true rfl) rfl rfl (Nat.le_of_ble_eq_true rfl) d_X6_endNet_53 rfl (fun x7 => ?_)
      refine gg_br (br_if_ne (tgt := 68) (pc' := 59) d_X6_endNet_56 (by decide) rfl) (fun h8 => ?_) (fun h8 => ?_)
      · exact hjp5 x7.2
      · refine gg_st (go_aload_n 0 d_X6_endNet_68 rfl rfl rfl) ?_
        refine gv_V (k_X6_storeNet l w F  x7.2) cv_X6_219 sC_1 (Nat.le_of_ble_eq_true rfl) rfl rfl (Nat.le_of_ble_eq_true rfl) d_X6_endNet_69 rfl (fun s9 => ?_)
        refine gg_st (go_aload_n 0 d_X6_endNet_72 rfl rfl rfl) ?_
        refine gg_st (go_getR (j := 5) cf6 sC_1 rfl (by decide) fl_X6_25 d_X6_endNet_73 rfl) ?_
        refine gv_V (k_X9_advance l w  s9) cv_X6_88 sC_9 (Nat.le_of_ble_eq_true rfl) rfl rfl (Nat.le_of_ble_eq_true rfl) d_X6_endNet_76 rfl (fun s10 => ?_)
        exact gg_vret rfl d_X6_endNet_79 rfl
    · exact hjp5 s1
    refine gg_brs (br_if_ne (tgt := 59) (pc' := 40) d_X6_endNet_37 (by decide) rfl) (fun h13 => ?_) (fun h13 => ?_)
    · refine gg_st (go_aload_n 0 d_X6_endNet_40 rfl rfl rfl) ?_
      refine gg_st (go_getR (j := 0) cf6 sC_1 rfl (by decide) fl_X6_12 d_X6_endNet_41 rfl) ?_
      refine gg_st (go_getI (j := 7) cf1 sC_2 rfl (by decide) fl_X6_216 d_X6_endNet_44 rfl) ?_
      refine gg_st (go_bipush d_X6_endNet_47 cb_8 rfl) ?_
      refine gg_brs (br_icmp_gt (tgt := 59) (pc' := 52) d_X6_endNet_49 (by decide) rfl) (fun h14 => ?_) (fun h14 => ?_)
      · exact gg_eq (if_pos ⟨h13, h14⟩) hA11
      · exact gg_eq (if_neg (fun z => h14 z.2)) hB12
    · exact gg_eq (if_neg (fun z => h13 z.1)) hB12
  · refine gg_st (go_aload_n 0 d_X6_endNet_19 rfl rfl rfl) ?_
    refine gv_V (k_X6_refuseToken l w  s1) cv_X6_75 sC_1 (Nat.le_of_ble_eq_true rfl) rfl rfl (Nat.le_of_ble_eq_true rfl) d_X6_endNet_20 rfl (fun s15 => ?_)
    refine gg_st (go_goto (pc' := 79) d_X6_endNet_23 (by decide)) ?_
    exact gg_vret rfl d_X6_endNet_79 rfl
def f_X1_addAgent (p1 : Int32) (σ : St) : Option (Int32 × St) :=
  Option.bind (
    if (σ.1 (2) 5) < (200 : Int32) then (
      if inb (σ.1 (2) 5) 200 then (
        Option.bind (some (seti σ (4) (ix (σ.1 (2) 5)) p1)) fun s6 =>
        Option.bind (some (seti s6 (2) 5 ((s6.1 (2) 5) + (1 : Int32)))) fun s7 =>
        some s7)
      else none)
    else (
      some σ)) fun t1 =>
  some ((t1.1 (2) 5) - (1 : Int32), t1)
set_option maxRecDepth 20000 in
theorem k_X1_addAgent (l : Launch) (w : Wo) (p1 : Int32) (σ : St) : K l w shC m_X1_addAgent 1 [.ref (2), .int p1] σ (f_X1_addAgent p1 σ) (rIS) := by
  refine k_of (L := [some (.ref (2)), some (.int p1)]) (plainFor_of_name (by decide +kernel)) 0 rfl (Nat.le_of_ble_eq_true rfl) ?_
  unfold f_X1_addAgent
  refine gg_st (go_aload_n 0 d_X1_addAgent_0 rfl rfl rfl) ?_
  refine gg_st (go_getI (j := 5) cf1 sC_2 rfl (by decide) fl_X1_35 d_X1_addAgent_1 rfl) ?_
  refine gg_st (go_sipush d_X1_addAgent_4 cs_200 rfl) ?_
  refine gg_bind 30 (fun (t1 : St) => [some (.ref (2)), none]) (fun (t1 : St) => []) (fun (t1 : St) => t1) ?_ (fun t1 => ?_)
  · refine gg_br (br_icmp_ge (tgt := 30) (pc' := 10) d_X1_addAgent_7 (by decide) rfl) (fun h4 => ?_) (fun h4 => ?_)
    · refine gg_st (go_aload_n 0 d_X1_addAgent_10 rfl rfl rfl) ?_
      refine gg_st (go_getR (j := 1) cf1 sC_2 rfl (by decide) fl_X1_15 d_X1_addAgent_11 rfl) ?_
      refine gg_st (go_aload_n 0 d_X1_addAgent_14 rfl rfl rfl) ?_
      refine gg_st (go_getI (j := 5) cf1 sC_2 rfl (by decide) fl_X1_35 d_X1_addAgent_15 rfl) ?_
      refine gg_st (go_iload_n 1 d_X1_addAgent_18 rfl rfl rfl) ?_
      refine gg_gd (fun h5 => ?_)
      refine gg_st (go_iast sC_4 h5 d_X1_addAgent_19 rfl) ?_
      refine gg_som (fun s6 => ?_)
      refine gg_st (go_aload_n 0 d_X1_addAgent_20 rfl rfl rfl) ?_
      refine gg_st (go_dup d_X1_addAgent_21 rfl rfl) ?_
      refine gg_st (go_getI (j := 5) cf1 sC_2 rfl (by decide) fl_X1_35 d_X1_addAgent_22 rfl) ?_
      refine gg_st (go_iconst d_X1_addAgent_25 ci_1 rfl) ?_
      refine gg_st (go_iadd d_X1_addAgent_26 rfl) ?_
      refine gg_st (go_putI (j := 5) cf1 sC_2 rfl (by decide) rfl rfl fl_X1_35 d_X1_addAgent_27 rfl) ?_
      refine gg_som (fun s7 => ?_)
      refine gg_st (go_fg [some (.ref (2)), none] ⟨rfl, trivial⟩) ?_
      exact gg_end rfl
    · refine gg_st (go_fg [some (.ref (2)), none] ⟨rfl, trivial⟩) ?_
      exact gg_end rfl
  · refine gg_st (go_aload_n 0 d_X1_addAgent_30 rfl rfl rfl) ?_
    refine gg_st (go_getI (j := 5) cf1 sC_2 rfl (by decide) fl_X1_35 d_X1_addAgent_31 rfl) ?_
    refine gg_st (go_iconst d_X1_addAgent_34 ci_1 rfl) ?_
    refine gg_st (go_isub d_X1_addAgent_35 rfl) ?_
    exact gg_iret rfl d_X1_addAgent_36 rfl
def f_X6_askBracket (p1 : Int32) (p2 : Int32) (p3 : Int32) (σ : St) : Option (St) :=
  if (σ.1 (1) 4) = 0 then (
    Option.bind (f_X3_portsOf (15) p1 σ) fun x2 =>
    if p2 = (x2 - (1 : Int32)) then (
      some σ)
    else (
      Option.bind (some (seti σ (1) 4 (5 : Int32))) fun s5 =>
      Option.bind (some (seti s5 (1) 7 p3)) fun s6 =>
      some s6))
  else (
    some σ)
set_option maxRecDepth 20000 in
theorem k_X6_askBracket (l : Launch) (w : Wo) (p1 : Int32) (p2 : Int32) (p3 : Int32) (σ : St) : K l w shC m_X6_askBracket 2 [.ref (1), .int p1, .int p2, .int p3] σ (f_X6_askBracket p1 p2 p3 σ) (rV) := by
  refine k_of (L := [some (.ref (1)), some (.int p1), some (.int p2), some (.int p3)]) (plainFor_of_name (by decide +kernel)) 0 rfl (Nat.le_of_ble_eq_true rfl) ?_
  unfold f_X6_askBracket
  refine gg_st (go_aload_n 0 d_X6_askBracket_0 rfl rfl rfl) ?_
  refine gg_st (go_getI (j := 4) cf6 sC_1 rfl (by decide) fl_X6_47 d_X6_askBracket_1 rfl) ?_
  refine gg_br (br_if_ne (tgt := 34) (pc' := 7) d_X6_askBracket_4 (by decide) rfl) (fun h1 => ?_) (fun h1 => ?_)
  · refine gg_st (go_iload_n 2 d_X6_askBracket_7 rfl rfl rfl) ?_
    refine gg_st (go_aload_n 0 d_X6_askBracket_8 rfl rfl rfl) ?_
    refine gg_st (go_getR (j := 6) cf6 sC_1 rfl (by decide) fl_X6_32 d_X6_askBracket_9 rfl) ?_
    refine gg_st (go_getR (j := 0) cf0 sC_14 rfl (by decide) fl_X6_91 d_X6_askBracket_12 rfl) ?_
    refine gg_st (go_iload_n 1 d_X6_askBracket_15 rfl rfl rfl) ?_
    refine gv_I (k_X3_portsOf l w (show 15 ∈ st15_65 by decide) p1 σ) cv_X6_167 sC_15 (Nat.le_of_ble_eq_true rfl) rfl rfl (Nat.le_of_ble_eq_true rfl) d_X6_askBracket_16 rfl (fun x2 => ?_)
    refine gg_st (go_iconst d_X6_askBracket_19 ci_1 rfl) ?_
    refine gg_st (go_isub d_X6_askBracket_20 rfl) ?_
    refine gg_br (br_icmp_eq (tgt := 34) (pc' := 24) d_X6_askBracket_21 (by decide) rfl) (fun h4 => ?_) (fun h4 => ?_)
    · exact gg_vret rfl d_X6_askBracket_34 rfl
    · refine gg_st (go_aload_n 0 d_X6_askBracket_24 rfl rfl rfl) ?_
      refine gg_st (go_iconst d_X6_askBracket_25 ci_5 rfl) ?_
      refine gg_st (go_putI (j := 4) cf6 sC_1 rfl (by decide) rfl rfl fl_X6_47 d_X6_askBracket_26 rfl) ?_
      refine gg_som (fun s5 => ?_)
      refine gg_st (go_aload_n 0 d_X6_askBracket_29 rfl rfl rfl) ?_
      refine gg_st (go_iload_n 3 d_X6_askBracket_30 rfl rfl rfl) ?_
      refine gg_st (go_putI (j := 7) cf6 sC_1 rfl (by decide) rfl rfl fl_X6_36 d_X6_askBracket_31 rfl) ?_
      refine gg_som (fun s6 => ?_)
      exact gg_vret rfl d_X6_askBracket_34 rfl
  · exact gg_vret rfl d_X6_askBracket_34 rfl
def f_X1_nameNumber_L2 (F : Nat) (c1 : Int64) (σ : St) (k0 : Unit → Option (Int32 × St)) : Nat → Int32 → Option (Int32 × St)
  | 0, _ => none
  | n + 1, v1 =>
    if (v1 < (σ.1 (2) 6)) ∧ (v1 < (60 : Int32)) then (
      if inb v1 60 then (
        if (lg_cmp (σ.2 (5) (ix v1)) c1) = 0 then (
          some (v1, σ))
        else (
          f_X1_nameNumber_L2 F c1 σ k0 n (v1 + (1 : Int32))))
      else none)
    else (
      k0 ())
def f_X1_nameNumber (F : Nat) (p1 : Int64) (σ : St) : Option (Int32 × St) :=
  f_X1_nameNumber_L2 F p1 σ
    (fun (t9 : Unit) =>
      if (60 : Int32) ≤ (σ.1 (2) 6) then (
        some ((-1 : Int32), σ))
      else (
        if inb (σ.1 (2) 6) 60 then (
          Option.bind (some (setl σ (5) (ix (σ.1 (2) 6)) p1)) fun s14 =>
          if inb (s14.1 (2) 6) 60 then (
            Option.bind (some (seti s14 (6) (ix (s14.1 (2) 6)) (0 : Int32))) fun s16 =>
            if inb (s16.1 (2) 6) 60 then (
              Option.bind (some (seti s16 (7) (ix (s16.1 (2) 6)) (0 : Int32))) fun s18 =>
              Option.bind (some (seti s18 (2) 6 ((s18.1 (2) 6) + (1 : Int32)))) fun s19 =>
              some ((s19.1 (2) 6) - (1 : Int32), s19))
            else none)
          else none)
        else none)) F (0 : Int32)
set_option maxRecDepth 20000 in
theorem g_f_X1_nameNumber_L2 (l : Launch) (w : Wo) (F : Nat) (c1 : Int64) (σ : St) (k0 : Unit → Option (Int32 × St)) (hk0 : ∀ t, GG l w shC m_X1_nameNumber 1 35 [some (.ref (2)), some (.long c1), none, none] [] σ (k0 t) (fun q => .inr ((rIS) q))) : ∀ (n : Nat) (v1 : Int32), GG l w shC m_X1_nameNumber 1 2 [some (.ref (2)), some (.long c1), none, some (.int v1)] [] σ (f_X1_nameNumber_L2 F c1 σ k0 n v1) (fun q => .inr ((rIS) q)) := by
  intro n
  induction n with
  | zero =>
    intro v1
    exact gg_none
  | succ n ih =>
    intro v1
    rw [f_X1_nameNumber_L2]
    refine gg_st (go_iload_n 3 d_X1_nameNumber_2 rfl rfl rfl) ?_
    refine gg_st (go_aload_n 0 d_X1_nameNumber_3 rfl rfl rfl) ?_
    refine gg_st (go_getI (j := 6) cf1 sC_2 rfl (by decide) fl_X1_39 d_X1_nameNumber_4 rfl) ?_
    refine gg_two (c := (v1 < (σ.1 (2) 6)) ∧ (v1 < (60 : Int32))) (pA := 16) (pB := 35) (LL := [some (.ref (2)), some (.long c1), none, some (.int v1)]) (ss := []) ?_ ?_ (fun hA5 hB6 => ?_)
    · refine gg_st (go_aload_n 0 d_X1_nameNumber_16 rfl rfl rfl) ?_
      refine gg_st (go_getR (j := 2) cf1 sC_2 rfl (by decide) fl_X1_18 d_X1_nameNumber_17 rfl) ?_
      refine gg_st (go_iload_n 3 d_X1_nameNumber_20 rfl rfl rfl) ?_
      refine gg_gd (fun h3 => ?_)
      refine gg_st (go_lald sC_5 h3 d_X1_nameNumber_21 rfl) ?_
      refine gg_st (go_lload_n 1 d_X1_nameNumber_22 rfl rfl rfl) ?_
      refine gg_st (go_lcmp d_X1_nameNumber_23 rfl) ?_
      refine gg_br (br_if_ne (tgt := 29) (pc' := 27) d_X1_nameNumber_24 (by decide) rfl) (fun h4 => ?_) (fun h4 => ?_)
      · refine gg_st (go_iload_n 3 d_X1_nameNumber_27 rfl rfl rfl) ?_
        exact gg_iret rfl d_X1_nameNumber_28 rfl
      · refine gg_st (go_iinc 3 d_X1_nameNumber_29 rfl (v := v1 + (1 : Int32)) (by rw [ci_1]) (by decide) (L' := [some (.ref (2)), some (.long c1), none, some (.int (v1 + (1 : Int32)))]) rfl rfl) ?_
        refine gg_st (go_goto (pc' := 2) d_X1_nameNumber_32 (by decide)) ?_
        exact ih (v1 + (1 : Int32))
    · refine gg_st (go_fg [some (.ref (2)), some (.long c1), none, none] ⟨rfl, ⟨rfl, trivial⟩⟩) ?_
      exact hk0 ()
    refine gg_brs (br_icmp_ge (tgt := 35) (pc' := 10) d_X1_nameNumber_7 (by decide) rfl) (fun h7 => ?_) (fun h7 => ?_)
    · refine gg_st (go_iload_n 3 d_X1_nameNumber_10 rfl rfl rfl) ?_
      refine gg_st (go_bipush d_X1_nameNumber_11 cb_60 rfl) ?_
      refine gg_brs (br_icmp_ge (tgt := 35) (pc' := 16) d_X1_nameNumber_13 (by decide) rfl) (fun h8 => ?_) (fun h8 => ?_)
      · exact gg_eq (if_pos ⟨h7, h8⟩) hA5
      · exact gg_eq (if_neg (fun z => h8 z.2)) hB6
    · exact gg_eq (if_neg (fun z => h7 z.1)) hB6
set_option maxRecDepth 20000 in
theorem k_X1_nameNumber (l : Launch) (w : Wo) (F : Nat) (p1 : Int64) (σ : St) : K l w shC m_X1_nameNumber 1 [.ref (2), .long p1] σ (f_X1_nameNumber F p1 σ) (rIS) := by
  refine k_of (L := [some (.ref (2)), some (.long p1), none, none]) (plainFor_of_name (by decide +kernel)) 1 rfl (Nat.le_of_ble_eq_true rfl) ?_
  unfold f_X1_nameNumber
  refine gg_st (go_iconst d_X1_nameNumber_0 ci_0 rfl) ?_
  refine gg_st (go_istore_n 3 d_X1_nameNumber_1 rfl (by decide) (L' := [some (.ref (2)), some (.long p1), none, some (.int (0 : Int32))]) rfl rfl) ?_
  refine g_f_X1_nameNumber_L2 l w F p1 σ _ (fun t9 => ?_) F (0 : Int32)
  refine gg_st (go_aload_n 0 d_X1_nameNumber_35 rfl rfl rfl) ?_
  refine gg_st (go_getI (j := 6) cf1 sC_2 rfl (by decide) fl_X1_39 d_X1_nameNumber_36 rfl) ?_
  refine gg_st (go_bipush d_X1_nameNumber_39 cb_60 rfl) ?_
  refine gg_br (br_icmp_lt (tgt := 46) (pc' := 44) d_X1_nameNumber_41 (by decide) rfl) (fun h12 => ?_) (fun h12 => ?_)
  · refine gg_st (go_iconst d_X1_nameNumber_44 ci_m1 rfl) ?_
    exact gg_iret rfl d_X1_nameNumber_45 rfl
  · refine gg_st (go_aload_n 0 d_X1_nameNumber_46 rfl rfl rfl) ?_
    refine gg_st (go_getR (j := 2) cf1 sC_2 rfl (by decide) fl_X1_18 d_X1_nameNumber_47 rfl) ?_
    refine gg_st (go_aload_n 0 d_X1_nameNumber_50 rfl rfl rfl) ?_
    refine gg_st (go_getI (j := 6) cf1 sC_2 rfl (by decide) fl_X1_39 d_X1_nameNumber_51 rfl) ?_
    refine gg_st (go_lload_n 1 d_X1_nameNumber_54 rfl rfl rfl) ?_
    refine gg_gd (fun h13 => ?_)
    refine gg_st (go_last sC_5 h13 d_X1_nameNumber_55 rfl) ?_
    refine gg_som (fun s14 => ?_)
    refine gg_st (go_aload_n 0 d_X1_nameNumber_56 rfl rfl rfl) ?_
    refine gg_st (go_getR (j := 3) cf1 sC_2 rfl (by decide) fl_X1_22 d_X1_nameNumber_57 rfl) ?_
    refine gg_st (go_aload_n 0 d_X1_nameNumber_60 rfl rfl rfl) ?_
    refine gg_st (go_getI (j := 6) cf1 sC_2 rfl (by decide) fl_X1_39 d_X1_nameNumber_61 rfl) ?_
    refine gg_st (go_iconst d_X1_nameNumber_64 ci_0 rfl) ?_
    refine gg_gd (fun h15 => ?_)
    refine gg_st (go_iast sC_6 h15 d_X1_nameNumber_65 rfl) ?_
    refine gg_som (fun s16 => ?_)
    refine gg_st (go_aload_n 0 d_X1_nameNumber_66 rfl rfl rfl) ?_
    refine gg_st (go_getR (j := 4) cf1 sC_2 rfl (by decide) fl_X1_25 d_X1_nameNumber_67 rfl) ?_
    refine gg_st (go_aload_n 0 d_X1_nameNumber_70 rfl rfl rfl) ?_
    refine gg_st (go_getI (j := 6) cf1 sC_2 rfl (by decide) fl_X1_39 d_X1_nameNumber_71 rfl) ?_
    refine gg_st (go_iconst d_X1_nameNumber_74 ci_0 rfl) ?_
    refine gg_gd (fun h17 => ?_)
    refine gg_st (go_zast (Or.inl rfl) sC_7 h17 d_X1_nameNumber_75 rfl) ?_
    refine gg_som (fun s18 => ?_)
    refine gg_st (go_aload_n 0 d_X1_nameNumber_76 rfl rfl rfl) ?_
    refine gg_st (go_dup d_X1_nameNumber_77 rfl rfl) ?_
    refine gg_st (go_getI (j := 6) cf1 sC_2 rfl (by decide) fl_X1_39 d_X1_nameNumber_78 rfl) ?_
    refine gg_st (go_iconst d_X1_nameNumber_81 ci_1 rfl) ?_
    refine gg_st (go_iadd d_X1_nameNumber_82 rfl) ?_
    refine gg_st (go_putI (j := 6) cf1 sC_2 rfl (by decide) rfl rfl fl_X1_39 d_X1_nameNumber_83 rfl) ?_
    refine gg_som (fun s19 => ?_)
    refine gg_st (go_aload_n 0 d_X1_nameNumber_86 rfl rfl rfl) ?_
    refine gg_st (go_getI (j := 6) cf1 sC_2 rfl (by decide) fl_X1_39 d_X1_nameNumber_87 rfl) ?_
    refine gg_st (go_iconst d_X1_nameNumber_90 ci_1 rfl) ?_
    refine gg_st (go_isub d_X1_nameNumber_91 rfl) ?_
    exact gg_iret rfl d_X1_nameNumber_92 rfl
def f_X6_readName (F : Nat) (p1 : Int32) (σ : St) : Option (Int32 × St) :=
  Option.bind (
    if (12 : Int32) ≤ p1 then (
      some ((-1 : Int32), σ))
    else (
      Option.bind (f_X1_nameNumber F (σ.2 (9) 9) σ) fun x3 =>
      some (x3.1, x3.2))) fun t1 =>
  if t1.1 = (-1 : Int32) then (
    Option.bind (f_X6_refuse (4 : Int32) t1.2) fun s5 =>
    some ((-1 : Int32), s5))
  else (
    Option.bind (f_X9_advance t1.2) fun s6 =>
    Option.bind (f_X1_stand t1.1 s6) fun x7 =>
    some (x7.1, x7.2))
set_option maxRecDepth 20000 in
theorem k_X6_readName (l : Launch) (w : Wo) (F : Nat) (p1 : Int32) (σ : St) : K l w shC m_X6_readName 3 [.ref (1), .int p1] σ (f_X6_readName F p1 σ) (rIS) := by
  refine k_of (L := [some (.ref (1)), some (.int p1), none]) (plainFor_of_name (by decide +kernel)) 1 rfl (Nat.le_of_ble_eq_true rfl) ?_
  unfold f_X6_readName
  refine gg_st (go_iload_n 1 d_X6_readName_0 rfl rfl rfl) ?_
  refine gg_st (go_bipush d_X6_readName_1 cb_12 rfl) ?_
  refine gg_bind 24 (fun (t1 : Int32 × St) => [some (.ref (1)), none, none]) (fun (t1 : Int32 × St) => [.int t1.1]) (fun (t1 : Int32 × St) => t1.2) ?_ (fun t1 => ?_)
  · refine gg_br (br_icmp_lt (tgt := 10) (pc' := 6) d_X6_readName_3 (by decide) rfl) (fun h2 => ?_) (fun h2 => ?_)
    · refine gg_st (go_iconst d_X6_readName_6 ci_m1 rfl) ?_
      refine gg_st (go_goto (pc' := 24) d_X6_readName_7 (by decide)) ?_
      refine gg_st (go_fg [some (.ref (1)), none, none] ⟨rfl, trivial⟩) ?_
      exact gg_end rfl
    · refine gg_st (go_aload_n 0 d_X6_readName_10 rfl rfl rfl) ?_
      refine gg_st (go_getR (j := 0) cf6 sC_1 rfl (by decide) fl_X6_12 d_X6_readName_11 rfl) ?_
      refine gg_st (go_aload_n 0 d_X6_readName_14 rfl rfl rfl) ?_
      refine gg_st (go_getR (j := 5) cf6 sC_1 rfl (by decide) fl_X6_25 d_X6_readName_15 rfl) ?_
      refine gg_st (go_getL (j := 9) cf9 sC_9 rfl (by decide) fl_X6_81 d_X6_readName_18 rfl) ?_
      refine gv_IS (k_X1_nameNumber l w F (σ.2 (9) 9) σ) cv_X6_189 sC_2 (Nat.le_of_ble_eq_true rfl) rfl rfl (Nat.le_of_ble_eq_true rfl) d_X6_readName_21 rfl (fun x3 => ?_)
      refine gg_st (go_fg [some (.ref (1)), none, none] ⟨rfl, trivial⟩) ?_
      exact gg_end rfl
  · refine gg_st (go_istore_n 2 d_X6_readName_24 rfl (by decide) (L' := [some (.ref (1)), none, some (.int t1.1)]) rfl rfl) ?_
    refine gg_st (go_iload_n 2 d_X6_readName_25 rfl rfl rfl) ?_
    refine gg_st (go_iconst d_X6_readName_26 ci_m1 rfl) ?_
    refine gg_br (br_icmp_ne (tgt := 37) (pc' := 30) d_X6_readName_27 (by decide) rfl) (fun h4 => ?_) (fun h4 => ?_)
    · refine gg_st (go_aload_n 0 d_X6_readName_30 rfl rfl rfl) ?_
      refine gg_st (go_iconst d_X6_readName_31 ci_4 rfl) ?_
      refine gv_V (k_X6_refuse l w (4 : Int32) t1.2) cv_X6_101 sC_1 (Nat.le_of_ble_eq_true rfl) rfl rfl (Nat.le_of_ble_eq_true rfl) d_X6_readName_32 rfl (fun s5 => ?_)
      refine gg_st (go_iconst d_X6_readName_35 ci_m1 rfl) ?_
      exact gg_iret rfl d_X6_readName_36 rfl
    · refine gg_st (go_aload_n 0 d_X6_readName_37 rfl rfl rfl) ?_
      refine gg_st (go_getR (j := 5) cf6 sC_1 rfl (by decide) fl_X6_25 d_X6_readName_38 rfl) ?_
      refine gv_V (k_X9_advance l w  t1.2) cv_X6_88 sC_9 (Nat.le_of_ble_eq_true rfl) rfl rfl (Nat.le_of_ble_eq_true rfl) d_X6_readName_41 rfl (fun s6 => ?_)
      refine gg_st (go_aload_n 0 d_X6_readName_44 rfl rfl rfl) ?_
      refine gg_st (go_getR (j := 0) cf6 sC_1 rfl (by decide) fl_X6_12 d_X6_readName_45 rfl) ?_
      refine gg_st (go_iload_n 2 d_X6_readName_48 rfl rfl rfl) ?_
      refine gv_IS (k_X1_stand l w t1.1 s6) cv_X6_192 sC_2 (Nat.le_of_ble_eq_true rfl) rfl rfl (Nat.le_of_ble_eq_true rfl) d_X6_readName_49 rfl (fun x7 => ?_)
      exact gg_iret rfl d_X6_readName_52 rfl
def f_X6_hasSlot (p1 : Int32) (σ : St) : Option (Int32) :=
  Option.bind (f_X6_slotKind p1 σ) fun x1 =>
  Option.bind (some (f_X6_slotPort p1)) fun x2 =>
  Option.bind (f_X3_hasPort (15) x1 x2 σ) fun x3 =>
  if x3 = 0 ∨ x3 = 1 then some x3 else none
set_option maxRecDepth 20000 in
theorem k_X6_hasSlot (l : Launch) (w : Wo) (p1 : Int32) (σ : St) : K l w shC m_X6_hasSlot 3 [.ref (1), .int p1] σ (f_X6_hasSlot p1 σ) (rI σ) := by
  refine k_of (L := [some (.ref (1)), some (.int p1)]) (plainFor_of_name (by decide +kernel)) 0 rfl (Nat.le_of_ble_eq_true rfl) ?_
  unfold f_X6_hasSlot
  refine gg_st (go_aload_n 0 d_X6_hasSlot_0 rfl rfl rfl) ?_
  refine gg_st (go_getR (j := 6) cf6 sC_1 rfl (by decide) fl_X6_32 d_X6_hasSlot_1 rfl) ?_
  refine gg_st (go_getR (j := 0) cf0 sC_14 rfl (by decide) fl_X6_91 d_X6_hasSlot_4 rfl) ?_
  refine gg_st (go_aload_n 0 d_X6_hasSlot_7 rfl rfl rfl) ?_
  refine gg_st (go_iload_n 1 d_X6_hasSlot_8 rfl rfl rfl) ?_
  refine gv_I (k_X6_slotKind l w p1 σ) cv_X6_250 sC_1 (Nat.le_of_ble_eq_true rfl) rfl rfl (Nat.le_of_ble_eq_true rfl) d_X6_hasSlot_9 rfl (fun x1 => ?_)
  refine gg_st (go_iload_n 1 d_X6_hasSlot_12 rfl rfl rfl) ?_
  refine gs_I (k_X6_slotPort l w p1 σ) cs_X6_253 (Nat.le_of_ble_eq_true rfl) rfl rfl (Nat.le_of_ble_eq_true rfl) d_X6_hasSlot_13 rfl (fun x2 => ?_)
  refine gv_I (k_X3_hasPort l w (show 15 ∈ st15_65 by decide) x1 x2 σ) cv_X6_256 sC_15 (Nat.le_of_ble_eq_true rfl) rfl rfl (Nat.le_of_ble_eq_true rfl) d_X6_hasSlot_16 rfl (fun x3 => ?_)
  refine gg_gd (fun h4 => ?_)
  exact gg_zret h4 rfl d_X6_hasSlot_19 rfl
def f_X6_slotsFit_L2 (F : Nat) : Nat → Int32 → St → Option (Int32 × St)
  | 0, _, _ => none
  | n + 1, v1, g =>
    if v1 < (8 : Int32) then (
      Option.bind (f_X6_hasSlot v1 g) fun x3 =>
      Option.bind (some (fun (t4 : St) =>
        f_X6_slotsFit_L2 F n (v1 + (1 : Int32)) t4)) fun jp5 =>
      if x3 = 0 then (
        jp5 g)
      else (
        Option.bind (f_X6_slotSort v1 g) fun x7 =>
        Option.bind (some (f_X1_outerPoint v1)) fun x8 =>
        Option.bind (f_X1_farCode F x8 g) fun x9 =>
        Option.bind (f_X6_fits x7 x9.1 x9.2) fun x10 =>
        if x10 = 0 then (
          some ((0 : Int32), x9.2))
        else (
          jp5 x9.2)))
    else (
      some ((1 : Int32), g))
def f_X6_slotsFit (F : Nat) (σ : St) : Option (Int32 × St) :=
  f_X6_slotsFit_L2 F F (0 : Int32) σ
set_option maxRecDepth 20000 in
theorem g_f_X6_slotsFit_L2 (l : Launch) (w : Wo) (F : Nat) : ∀ (n : Nat) (v1 : Int32) (g : St), GG l w shC m_X6_slotsFit 4 2 [some (.ref (1)), some (.int v1)] [] g (f_X6_slotsFit_L2 F n v1 g) (fun q => .inr ((rIS) q)) := by
  intro n
  induction n with
  | zero =>
    intro v1 g
    exact gg_none
  | succ n ih =>
    intro v1 g
    rw [f_X6_slotsFit_L2]
    refine gg_st (go_iload_n 1 d_X6_slotsFit_2 rfl rfl rfl) ?_
    refine gg_st (go_bipush d_X6_slotsFit_3 cb_8 rfl) ?_
    refine gg_br (br_icmp_ge (tgt := 47) (pc' := 8) d_X6_slotsFit_5 (by decide) rfl) (fun h2 => ?_) (fun h2 => ?_)
    · refine gg_st (go_aload_n 0 d_X6_slotsFit_8 rfl rfl rfl) ?_
      refine gg_st (go_iload_n 1 d_X6_slotsFit_9 rfl rfl rfl) ?_
      refine gv_I (k_X6_hasSlot l w v1 g) cv_X6_234 sC_1 (Nat.le_of_ble_eq_true rfl) rfl rfl (Nat.le_of_ble_eq_true rfl) d_X6_slotsFit_10 rfl (fun x3 => ?_)
      refine gg_jp 41 (fun (t4 : St) => [some (.ref (1)), some (.int v1)]) (fun (t4 : St) => []) (fun (t4 : St) => t4) (fun t4 => ?_) (fun jp5 hjp5 => ?_)
      · refine gg_st (go_iinc 1 d_X6_slotsFit_41 rfl (v := v1 + (1 : Int32)) (by rw [ci_1]) (by decide) (L' := [some (.ref (1)), some (.int (v1 + (1 : Int32)))]) rfl rfl) ?_
        refine gg_st (go_goto (pc' := 2) d_X6_slotsFit_44 (by decide)) ?_
        exact ih (v1 + (1 : Int32)) t4
      refine gg_br (br_if_eq (tgt := 41) (pc' := 16) d_X6_slotsFit_13 (by decide) rfl) (fun h6 => ?_) (fun h6 => ?_)
      · exact hjp5 g
      · refine gg_st (go_aload_n 0 d_X6_slotsFit_16 rfl rfl rfl) ?_
        refine gg_st (go_aload_n 0 d_X6_slotsFit_17 rfl rfl rfl) ?_
        refine gg_st (go_iload_n 1 d_X6_slotsFit_18 rfl rfl rfl) ?_
        refine gv_I (k_X6_slotSort l w v1 g) cv_X6_238 sC_1 (Nat.le_of_ble_eq_true rfl) rfl rfl (Nat.le_of_ble_eq_true rfl) d_X6_slotsFit_19 rfl (fun x7 => ?_)
        refine gg_st (go_aload_n 0 d_X6_slotsFit_22 rfl rfl rfl) ?_
        refine gg_st (go_getR (j := 0) cf6 sC_1 rfl (by decide) fl_X6_12 d_X6_slotsFit_23 rfl) ?_
        refine gg_st (go_iload_n 1 d_X6_slotsFit_26 rfl rfl rfl) ?_
        refine gs_I (k_X1_outerPoint l w v1 g) cs_X6_160 (Nat.le_of_ble_eq_true rfl) rfl rfl (Nat.le_of_ble_eq_true rfl) d_X6_slotsFit_27 rfl (fun x8 => ?_)
        refine gv_IS (k_X1_farCode l w F x8 g) cv_X6_228 sC_2 (Nat.le_of_ble_eq_true rfl) rfl rfl (Nat.le_of_ble_eq_true rfl) d_X6_slotsFit_30 rfl (fun x9 => ?_)
        refine gv_I (k_X6_fits l w x7 x9.1 x9.2) cv_X6_231 sC_1 (Nat.le_of_ble_eq_true rfl) rfl rfl (Nat.le_of_ble_eq_true rfl) d_X6_slotsFit_33 rfl (fun x10 => ?_)
        refine gg_br (br_if_ne (tgt := 41) (pc' := 39) d_X6_slotsFit_36 (by decide) rfl) (fun h11 => ?_) (fun h11 => ?_)
        · refine gg_st (go_iconst d_X6_slotsFit_39 ci_0 rfl) ?_
          exact gg_zret (Or.inl rfl) rfl d_X6_slotsFit_40 rfl
        · exact hjp5 x9.2
    · refine gg_st (go_iconst d_X6_slotsFit_47 ci_1 rfl) ?_
      exact gg_zret (Or.inr rfl) rfl d_X6_slotsFit_48 rfl
set_option maxRecDepth 20000 in
theorem k_X6_slotsFit (l : Launch) (w : Wo) (F : Nat) (σ : St) : K l w shC m_X6_slotsFit 4 [.ref (1)] σ (f_X6_slotsFit F σ) (rIS) := by
  refine k_of (L := [some (.ref (1)), none]) (plainFor_of_name (by decide +kernel)) 1 rfl (Nat.le_of_ble_eq_true rfl) ?_
  unfold f_X6_slotsFit
  refine gg_st (go_iconst d_X6_slotsFit_0 ci_0 rfl) ?_
  refine gg_st (go_istore_n 1 d_X6_slotsFit_1 rfl (by decide) (L' := [some (.ref (1)), some (.int (0 : Int32))]) rfl rfl) ?_
  refine g_f_X6_slotsFit_L2 l w F  F (0 : Int32) σ
def f_X8_has (a : Nat) (p1 : Int32) (σ : St) : Int32 :=
  if (0 ≤ p1) ∧ ((p1 < (σ.1 a 7)) ∧ (p1 < (60 : Int32))) then (
    (1 : Int32))
  else (
    (0 : Int32))
set_option maxRecDepth 20000 in
theorem k_X8_has (l : Launch) (w : Wo) {a : Nat} (ha : a ∈ st19_69) (p1 : Int32) (σ : St) : K l w shC m_X8_has 1 [.ref a, .int p1] σ (some (f_X8_has a p1 σ)) (rI σ) := by
  refine k_of (L := [some (.ref a), some (.int p1)]) (plainFor_of_name (by decide +kernel)) 0 rfl (Nat.le_of_ble_eq_true rfl) ?_
  unfold f_X8_has
  refine gg_st (go_iload_n 1 d_X8_has_0 rfl rfl rfl) ?_
  refine gg_twov (c := (0 ≤ p1) ∧ ((p1 < (σ.1 a 7)) ∧ (p1 < (60 : Int32)))) (pA := 18) (pB := 22) (LL := [some (.ref a), some (.int p1)]) (ss := []) ?_ ?_ (fun hA1 hB2 => ?_)
  · refine gg_st (go_iconst d_X8_has_18 ci_1 rfl) ?_
    refine gg_st (go_goto (pc' := 23) d_X8_has_19 (by decide)) ?_
    exact gg_zret (Or.inr rfl) rfl d_X8_has_23 rfl
  · refine gg_st (go_iconst d_X8_has_22 ci_0 rfl) ?_
    exact gg_zret (Or.inl rfl) rfl d_X8_has_23 rfl
  refine gg_brs (br_if_lt (tgt := 22) (pc' := 4) d_X8_has_1 (by decide) rfl) (fun h3 => ?_) (fun h3 => ?_)
  · refine gg_st (go_iload_n 1 d_X8_has_4 rfl rfl rfl) ?_
    refine gg_st (go_aload_n 0 d_X8_has_5 rfl rfl rfl) ?_
    refine gg_st (go_getI (j := 7) cf8 (sC_st19_69_0 ha) rfl (by decide) fl_X8_39 d_X8_has_6 rfl) ?_
    refine gg_brs (br_icmp_ge (tgt := 22) (pc' := 12) d_X8_has_9 (by decide) rfl) (fun h4 => ?_) (fun h4 => ?_)
    · refine gg_st (go_iload_n 1 d_X8_has_12 rfl rfl rfl) ?_
      refine gg_st (go_bipush d_X8_has_13 cb_60 rfl) ?_
      refine gg_brs (br_icmp_ge (tgt := 22) (pc' := 18) d_X8_has_15 (by decide) rfl) (fun h5 => ?_) (fun h5 => ?_)
      · exact gg_eq (congrArg some (if_pos ⟨h3, ⟨h4, h5⟩⟩)) hA1
      · exact gg_eq (congrArg some (if_neg (fun z => (fun z => h5 z.2) z.2))) hB2
    · exact gg_eq (congrArg some (if_neg (fun z => (fun z => h4 z.1) z.2))) hB2
  · exact gg_eq (congrArg some (if_neg (fun z => h3 z.1))) hB2
def f_X8_addAgent (p1 : Int32) (p2 : Int32) (σ : St) : Option (St) :=
  Option.bind (some (f_X8_has (19) p1 σ)) fun x1 =>
  if x1 = 0 then (
    some σ)
  else (
    if inb p1 60 then (
      if (σ.1 (22) (ix p1)) < (12 : Int32) then (
        if inb p1 60 then (
          if inb ((p1 * (12 : Int32)) + (σ.1 (22) (ix p1))) 720 then (
            Option.bind (some (seti σ (24) (ix ((p1 * (12 : Int32)) + (σ.1 (22) (ix p1)))) p2)) fun s9 =>
            if inb p1 60 then (
              if inb p1 60 then (
                Option.bind (some (seti s9 (22) (ix p1) ((s9.1 (22) (ix p1)) + (1 : Int32)))) fun s12 =>
                some s12)
              else none)
            else none)
          else none)
        else none)
      else (
        some σ))
    else none)
set_option maxRecDepth 20000 in
theorem k_X8_addAgent (l : Launch) (w : Wo) (p1 : Int32) (p2 : Int32) (σ : St) : K l w shC m_X8_addAgent 2 [.ref (19), .int p1, .int p2] σ (f_X8_addAgent p1 p2 σ) (rV) := by
  refine k_of (L := [some (.ref (19)), some (.int p1), some (.int p2)]) (plainFor_of_name (by decide +kernel)) 0 rfl (Nat.le_of_ble_eq_true rfl) ?_
  unfold f_X8_addAgent
  refine gg_st (go_aload_n 0 d_X8_addAgent_0 rfl rfl rfl) ?_
  refine gg_st (go_iload_n 1 d_X8_addAgent_1 rfl rfl rfl) ?_
  refine gv_I (k_X8_has l w (show 19 ∈ st19_69 by decide) p1 σ) cv_X8_51 sC_19 (Nat.le_of_ble_eq_true rfl) rfl rfl (Nat.le_of_ble_eq_true rfl) d_X8_addAgent_2 rfl (fun x1 => ?_)
  refine gg_br (br_if_eq (tgt := 46) (pc' := 8) d_X8_addAgent_5 (by decide) rfl) (fun h3 => ?_) (fun h3 => ?_)
  · exact gg_vret rfl d_X8_addAgent_46 rfl
  · refine gg_st (go_aload_n 0 d_X8_addAgent_8 rfl rfl rfl) ?_
    refine gg_st (go_getR (j := 2) cf8 sC_19 rfl (by decide) fl_X8_18 d_X8_addAgent_9 rfl) ?_
    refine gg_st (go_iload_n 1 d_X8_addAgent_12 rfl rfl rfl) ?_
    refine gg_gd (fun h4 => ?_)
    refine gg_st (go_iald sC_22 h4 d_X8_addAgent_13 rfl) ?_
    refine gg_st (go_bipush d_X8_addAgent_14 cb_12 rfl) ?_
    refine gg_br (br_icmp_ge (tgt := 46) (pc' := 19) d_X8_addAgent_16 (by decide) rfl) (fun h6 => ?_) (fun h6 => ?_)
    · refine gg_st (go_aload_n 0 d_X8_addAgent_19 rfl rfl rfl) ?_
      refine gg_st (go_getR (j := 4) cf8 sC_19 rfl (by decide) fl_X8_24 d_X8_addAgent_20 rfl) ?_
      refine gg_st (go_iload_n 1 d_X8_addAgent_23 rfl rfl rfl) ?_
      refine gg_st (go_bipush d_X8_addAgent_24 cb_12 rfl) ?_
      refine gg_st (go_imul d_X8_addAgent_26 rfl) ?_
      refine gg_st (go_aload_n 0 d_X8_addAgent_27 rfl rfl rfl) ?_
      refine gg_st (go_getR (j := 2) cf8 sC_19 rfl (by decide) fl_X8_18 d_X8_addAgent_28 rfl) ?_
      refine gg_st (go_iload_n 1 d_X8_addAgent_31 rfl rfl rfl) ?_
      refine gg_gd (fun h7 => ?_)
      refine gg_st (go_iald sC_22 h7 d_X8_addAgent_32 rfl) ?_
      refine gg_st (go_iadd d_X8_addAgent_33 rfl) ?_
      refine gg_st (go_iload_n 2 d_X8_addAgent_34 rfl rfl rfl) ?_
      refine gg_gd (fun h8 => ?_)
      refine gg_st (go_iast sC_24 h8 d_X8_addAgent_35 rfl) ?_
      refine gg_som (fun s9 => ?_)
      refine gg_st (go_aload_n 0 d_X8_addAgent_36 rfl rfl rfl) ?_
      refine gg_st (go_getR (j := 2) cf8 sC_19 rfl (by decide) fl_X8_18 d_X8_addAgent_37 rfl) ?_
      refine gg_st (go_iload_n 1 d_X8_addAgent_40 rfl rfl rfl) ?_
      refine gg_st (go_dup2 d_X8_addAgent_41 rfl rfl rfl) ?_
      refine gg_gd (fun h10 => ?_)
      refine gg_st (go_iald sC_22 h10 d_X8_addAgent_42 rfl) ?_
      refine gg_st (go_iconst d_X8_addAgent_43 ci_1 rfl) ?_
      refine gg_st (go_iadd d_X8_addAgent_44 rfl) ?_
      refine gg_gd (fun h11 => ?_)
      refine gg_st (go_iast sC_22 h11 d_X8_addAgent_45 rfl) ?_
      refine gg_som (fun s12 => ?_)
      exact gg_vret rfl d_X8_addAgent_46 rfl
    · exact gg_vret rfl d_X8_addAgent_46 rfl
def f_X8_setRings (p1 : Int32) (p2 : Int32) (σ : St) : Option (St) :=
  Option.bind (some (f_X8_has (19) p1 σ)) fun x1 =>
  if x1 = 0 then (
    some σ)
  else (
    if inb p1 60 then (
      Option.bind (some (seti σ (23) (ix p1) p2)) fun s6 =>
      some s6)
    else none)
set_option maxRecDepth 20000 in
theorem k_X8_setRings (l : Launch) (w : Wo) (p1 : Int32) (p2 : Int32) (σ : St) : K l w shC m_X8_setRings 2 [.ref (19), .int p1, .int p2] σ (f_X8_setRings p1 p2 σ) (rV) := by
  refine k_of (L := [some (.ref (19)), some (.int p1), some (.int p2)]) (plainFor_of_name (by decide +kernel)) 0 rfl (Nat.le_of_ble_eq_true rfl) ?_
  unfold f_X8_setRings
  refine gg_st (go_aload_n 0 d_X8_setRings_0 rfl rfl rfl) ?_
  refine gg_st (go_iload_n 1 d_X8_setRings_1 rfl rfl rfl) ?_
  refine gv_I (k_X8_has l w (show 19 ∈ st19_69 by decide) p1 σ) cv_X8_51 sC_19 (Nat.le_of_ble_eq_true rfl) rfl rfl (Nat.le_of_ble_eq_true rfl) d_X8_setRings_2 rfl (fun x1 => ?_)
  refine gg_br (br_if_eq (tgt := 15) (pc' := 8) d_X8_setRings_5 (by decide) rfl) (fun h4 => ?_) (fun h4 => ?_)
  · exact gg_vret rfl d_X8_setRings_15 rfl
  · refine gg_st (go_aload_n 0 d_X8_setRings_8 rfl rfl rfl) ?_
    refine gg_st (go_getR (j := 3) cf8 sC_19 rfl (by decide) fl_X8_21 d_X8_setRings_9 rfl) ?_
    refine gg_st (go_iload_n 1 d_X8_setRings_12 rfl rfl rfl) ?_
    refine gg_st (go_iload_n 2 d_X8_setRings_13 rfl rfl rfl) ?_
    refine gg_gd (fun h5 => ?_)
    refine gg_st (go_iast sC_23 h5 d_X8_setRings_14 rfl) ?_
    refine gg_som (fun s6 => ?_)
    exact gg_vret rfl d_X8_setRings_15 rfl
def f_X8_setWire (p1 : Int32) (p2 : Int32) (p3 : Int32) (σ : St) : Option (St) :=
  Option.bind (some (f_X8_has (19) p1 σ)) fun x1 =>
  if (x1 = 0) ∨ ((f_X11_isInside p2 (96 : Int32)) = 0) then (
    Option.bind (some (f_X8_has (19) p1 σ)) fun x4 =>
    if (x4 = 0) ∨ ((f_X11_isInside (f_X11_endOf p2) (8 : Int32)) = 0) then (
      some σ)
    else (
      Option.bind (some (f_X11_endOf p2)) fun x7 =>
      if inb ((p1 * (8 : Int32)) + x7) 480 then (
        Option.bind (some (seti σ (26) (ix ((p1 * (8 : Int32)) + x7)) p3)) fun s9 =>
        some s9)
      else none))
  else (
    if inb ((p1 * (96 : Int32)) + p2) 5760 then (
      Option.bind (some (seti σ (25) (ix ((p1 * (96 : Int32)) + p2)) p3)) fun s15 =>
      some s15)
    else none)
set_option maxRecDepth 20000 in
theorem k_X8_setWire (l : Launch) (w : Wo) (p1 : Int32) (p2 : Int32) (p3 : Int32) (σ : St) : K l w shC m_X8_setWire 2 [.ref (19), .int p1, .int p2, .int p3] σ (f_X8_setWire p1 p2 p3 σ) (rV) := by
  refine k_of (L := [some (.ref (19)), some (.int p1), some (.int p2), some (.int p3)]) (plainFor_of_name (by decide +kernel)) 0 rfl (Nat.le_of_ble_eq_true rfl) ?_
  unfold f_X8_setWire
  refine gg_st (go_aload_n 0 d_X8_setWire_0 rfl rfl rfl) ?_
  refine gg_st (go_iload_n 1 d_X8_setWire_1 rfl rfl rfl) ?_
  refine gv_I (k_X8_has l w (show 19 ∈ st19_69 by decide) p1 σ) cv_X8_51 sC_19 (Nat.le_of_ble_eq_true rfl) rfl rfl (Nat.le_of_ble_eq_true rfl) d_X8_setWire_2 rfl (fun x1 => ?_)
  refine gg_two (c := (x1 = 0) ∨ ((f_X11_isInside p2 (96 : Int32)) = 0)) (pA := 32) (pB := 17) (LL := [some (.ref (19)), some (.int p1), some (.int p2), some (.int p3)]) (ss := []) ?_ ?_ (fun hA16 hB17 => ?_)
  · refine gg_st (go_aload_n 0 d_X8_setWire_32 rfl rfl rfl) ?_
    refine gg_st (go_iload_n 1 d_X8_setWire_33 rfl rfl rfl) ?_
    refine gv_I (k_X8_has l w (show 19 ∈ st19_69 by decide) p1 σ) cv_X8_51 sC_19 (Nat.le_of_ble_eq_true rfl) rfl rfl (Nat.le_of_ble_eq_true rfl) d_X8_setWire_34 rfl (fun x4 => ?_)
    refine gg_two (c := (x4 = 0) ∨ ((f_X11_isInside (f_X11_endOf p2) (8 : Int32)) = 0)) (pA := 67) (pB := 52) (LL := [some (.ref (19)), some (.int p1), some (.int p2), some (.int p3)]) (ss := []) ?_ ?_ (fun hA10 hB11 => ?_)
    · exact gg_vret rfl d_X8_setWire_67 rfl
    · refine gg_st (go_aload_n 0 d_X8_setWire_52 rfl rfl rfl) ?_
      refine gg_st (go_getR (j := 6) cf8 sC_19 rfl (by decide) fl_X8_30 d_X8_setWire_53 rfl) ?_
      refine gg_st (go_iload_n 1 d_X8_setWire_56 rfl rfl rfl) ?_
      refine gg_st (go_bipush d_X8_setWire_57 cb_8 rfl) ?_
      refine gg_st (go_imul d_X8_setWire_59 rfl) ?_
      refine gg_st (go_iload_n 2 d_X8_setWire_60 rfl rfl rfl) ?_
      refine gs_I (k_X11_endOf l w p2 σ) cs_X8_55 (Nat.le_of_ble_eq_true rfl) rfl rfl (Nat.le_of_ble_eq_true rfl) d_X8_setWire_61 rfl (fun x7 => ?_)
      refine gg_st (go_iadd d_X8_setWire_64 rfl) ?_
      refine gg_st (go_iload_n 3 d_X8_setWire_65 rfl rfl rfl) ?_
      refine gg_gd (fun h8 => ?_)
      refine gg_st (go_iast sC_26 h8 d_X8_setWire_66 rfl) ?_
      refine gg_som (fun s9 => ?_)
      exact gg_vret rfl d_X8_setWire_67 rfl
    refine gg_brs (br_if_eq (tgt := 67) (pc' := 40) d_X8_setWire_37 (by decide) rfl) (fun h12 => ?_) (fun h12 => ?_)
    · exact gg_eq (if_pos (Or.inl h12)) hA10
    · refine gg_st (go_iload_n 2 d_X8_setWire_40 rfl rfl rfl) ?_
      refine gg_st (go_sI (k_X11_endOf l w p2 σ) cs_X8_55 (Nat.le_of_ble_eq_true rfl) rfl rfl (Nat.le_of_ble_eq_true rfl) d_X8_setWire_41 rfl) ?_
      refine gg_st (go_bipush d_X8_setWire_44 cb_8 rfl) ?_
      refine gg_st (go_sI (k_X11_isInside l w (f_X11_endOf p2) (8 : Int32) σ) cs_X8_43 (Nat.le_of_ble_eq_true rfl) rfl rfl (Nat.le_of_ble_eq_true rfl) d_X8_setWire_46 rfl) ?_
      refine gg_brs (br_if_eq (tgt := 67) (pc' := 52) d_X8_setWire_49 (by decide) rfl) (fun h13 => ?_) (fun h13 => ?_)
      · exact gg_eq (if_pos (Or.inr h13)) hA10
      · exact gg_eq (if_neg (fun z => z.elim h12 h13)) hB11
  · refine gg_st (go_aload_n 0 d_X8_setWire_17 rfl rfl rfl) ?_
    refine gg_st (go_getR (j := 5) cf8 sC_19 rfl (by decide) fl_X8_27 d_X8_setWire_18 rfl) ?_
    refine gg_st (go_iload_n 1 d_X8_setWire_21 rfl rfl rfl) ?_
    refine gg_st (go_bipush d_X8_setWire_22 cb_96 rfl) ?_
    refine gg_st (go_imul d_X8_setWire_24 rfl) ?_
    refine gg_st (go_iload_n 2 d_X8_setWire_25 rfl rfl rfl) ?_
    refine gg_st (go_iadd d_X8_setWire_26 rfl) ?_
    refine gg_st (go_iload_n 3 d_X8_setWire_27 rfl rfl rfl) ?_
    refine gg_gd (fun h14 => ?_)
    refine gg_st (go_iast sC_25 h14 d_X8_setWire_28 rfl) ?_
    refine gg_som (fun s15 => ?_)
    refine gg_st (go_goto (pc' := 67) d_X8_setWire_29 (by decide)) ?_
    exact gg_vret rfl d_X8_setWire_67 rfl
  refine gg_brs (br_if_eq (tgt := 32) (pc' := 8) d_X8_setWire_5 (by decide) rfl) (fun h18 => ?_) (fun h18 => ?_)
  · exact gg_eq (if_pos (Or.inl h18)) hA16
  · refine gg_st (go_iload_n 2 d_X8_setWire_8 rfl rfl rfl) ?_
    refine gg_st (go_bipush d_X8_setWire_9 cb_96 rfl) ?_
    refine gg_st (go_sI (k_X11_isInside l w p2 (96 : Int32) σ) cs_X8_43 (Nat.le_of_ble_eq_true rfl) rfl rfl (Nat.le_of_ble_eq_true rfl) d_X8_setWire_11 rfl) ?_
    refine gg_brs (br_if_eq (tgt := 32) (pc' := 17) d_X8_setWire_14 (by decide) rfl) (fun h19 => ?_) (fun h19 => ?_)
    · exact gg_eq (if_pos (Or.inr h19)) hA16
    · exact gg_eq (if_neg (fun z => z.elim h18 h19)) hB17
def f_X6_storeRule_L54 (F : Nat) (c1 : Int32) (c2 : Int32) (c3 : Int32) : Nat → Int32 → St → Option (St)
  | 0, _, _ => none
  | n + 1, v7, g =>
    if v7 < c3 then (
      Option.bind (some (f_X11_portCode c2 v7)) fun x9 =>
      Option.bind (some (f_X11_portCode c2 v7)) fun x10 =>
      Option.bind (f_X1_farCode F x10 g) fun x11 =>
      Option.bind (f_X8_setWire c1 x9 x11.1 x11.2) fun s12 =>
      f_X6_storeRule_L54 F c1 c2 c3 n (v7 + (1 : Int32)) s12)
    else (
      some g)
def f_X6_storeRule_L2 (F : Nat) (c1 : Int32) : Nat → Int32 → St → Option (St)
  | 0, _, _ => none
  | n + 1, v1, g =>
    if v1 < (g.1 (2) 5) then (
      Option.bind (f_X1_kindOf v1 g) fun x3 =>
      Option.bind (f_X8_addAgent c1 x3 g) fun s4 =>
      Option.bind (f_X1_kindOf v1 s4) fun x5 =>
      Option.bind (f_X3_portsOf (15) x5 s4) fun x6 =>
      Option.bind (f_X6_storeRule_L54 F c1 v1 x6 F (0 : Int32) s4) fun t13 =>
      f_X6_storeRule_L2 F c1 n (v1 + (1 : Int32)) t13)
    else (
      some g)
def f_X6_storeRule_L104 (F : Nat) (c1 : Int32) : Nat → Int32 → St → Option (St)
  | 0, _, _ => none
  | n + 1, v15, g =>
    if v15 < (8 : Int32) then (
      Option.bind (f_X6_hasSlot v15 g) fun x17 =>
      Option.bind (
        if x17 = 0 then (
          some g)
        else (
          Option.bind (some (f_X11_endCode v15)) fun x20 =>
          Option.bind (some (f_X1_outerPoint v15)) fun x21 =>
          Option.bind (f_X1_farCode F x21 g) fun x22 =>
          Option.bind (f_X8_setWire c1 x20 x22.1 x22.2) fun s23 =>
          some s23)) fun t18 =>
      f_X6_storeRule_L104 F c1 n (v15 + (1 : Int32)) t18)
    else (
      some g)
def f_X6_storeRule (F : Nat) (p1 : Int32) (σ : St) : Option (St) :=
  Option.bind (f_X6_storeRule_L2 F p1 F (0 : Int32) σ) fun t14 =>
  Option.bind (f_X6_storeRule_L104 F p1 F (0 : Int32) t14) fun t24 =>
  Option.bind (f_X1_countRings F t24) fun x25 =>
  Option.bind (f_X8_setRings p1 x25.1 x25.2) fun s26 =>
  some s26
set_option maxRecDepth 20000 in
theorem g_f_X6_storeRule_L54 (l : Launch) (w : Wo) (F : Nat) (c1 : Int32) (c2 : Int32) (c3 : Int32) : ∀ (n : Nat) (v7 : Int32) (g : St), GG l w shC m_X6_storeRule 4 54 [some (.ref (1)), some (.int c1), some (.int c2), some (.int c3), some (.int v7)] [] g (f_X6_storeRule_L54 F c1 c2 c3 n v7 g) (fun (t : St) => .inl (96, [some (.ref (1)), some (.int c1), some (.int c2), none, none], [], t)) := by
  intro n
  induction n with
  | zero =>
    intro v7 g
    exact gg_none
  | succ n ih =>
    intro v7 g
    rw [f_X6_storeRule_L54]
    refine gg_st (go_iload 4 d_X6_storeRule_54 rfl rfl) ?_
    refine gg_st (go_iload_n 3 d_X6_storeRule_56 rfl rfl rfl) ?_
    refine gg_br (br_icmp_ge (tgt := 96) (pc' := 60) d_X6_storeRule_57 (by decide) rfl) (fun h8 => ?_) (fun h8 => ?_)
    · refine gg_st (go_aload_n 0 d_X6_storeRule_60 rfl rfl rfl) ?_
      refine gg_st (go_getR (j := 6) cf6 sC_1 rfl (by decide) fl_X6_32 d_X6_storeRule_61 rfl) ?_
      refine gg_st (go_getR (j := 1) cf0 sC_14 rfl (by decide) fl_X6_129 d_X6_storeRule_64 rfl) ?_
      refine gg_st (go_iload_n 1 d_X6_storeRule_67 rfl rfl rfl) ?_
      refine gg_st (go_iload_n 2 d_X6_storeRule_68 rfl rfl rfl) ?_
      refine gg_st (go_iload 4 d_X6_storeRule_69 rfl rfl) ?_
      refine gs_I (k_X11_portCode l w c2 v7 g) cs_X6_186 (Nat.le_of_ble_eq_true rfl) rfl rfl (Nat.le_of_ble_eq_true rfl) d_X6_storeRule_71 rfl (fun x9 => ?_)
      refine gg_st (go_aload_n 0 d_X6_storeRule_74 rfl rfl rfl) ?_
      refine gg_st (go_getR (j := 0) cf6 sC_1 rfl (by decide) fl_X6_12 d_X6_storeRule_75 rfl) ?_
      refine gg_st (go_iload_n 2 d_X6_storeRule_78 rfl rfl rfl) ?_
      refine gg_st (go_iload 4 d_X6_storeRule_79 rfl rfl) ?_
      refine gs_I (k_X11_portCode l w c2 v7 g) cs_X6_186 (Nat.le_of_ble_eq_true rfl) rfl rfl (Nat.le_of_ble_eq_true rfl) d_X6_storeRule_81 rfl (fun x10 => ?_)
      refine gv_IS (k_X1_farCode l w F x10 g) cv_X6_228 sC_2 (Nat.le_of_ble_eq_true rfl) rfl rfl (Nat.le_of_ble_eq_true rfl) d_X6_storeRule_84 rfl (fun x11 => ?_)
      refine gv_V (k_X8_setWire l w c1 x9 x11.1 x11.2) cv_X6_261 sC_19 (Nat.le_of_ble_eq_true rfl) rfl rfl (Nat.le_of_ble_eq_true rfl) d_X6_storeRule_87 rfl (fun s12 => ?_)
      refine gg_st (go_iinc 4 d_X6_storeRule_90 rfl (v := v7 + (1 : Int32)) (by rw [ci_1]) (by decide) (L' := [some (.ref (1)), some (.int c1), some (.int c2), some (.int c3), some (.int (v7 + (1 : Int32)))]) rfl rfl) ?_
      refine gg_st (go_goto (pc' := 54) d_X6_storeRule_93 (by decide)) ?_
      exact ih (v7 + (1 : Int32)) s12
    · refine gg_st (go_fg [some (.ref (1)), some (.int c1), some (.int c2), none, none] ⟨rfl, ⟨rfl, ⟨rfl, trivial⟩⟩⟩) ?_
      exact gg_end rfl
set_option maxRecDepth 20000 in
theorem g_f_X6_storeRule_L2 (l : Launch) (w : Wo) (F : Nat) (c1 : Int32) : ∀ (n : Nat) (v1 : Int32) (g : St), GG l w shC m_X6_storeRule 4 2 [some (.ref (1)), some (.int c1), some (.int v1), none, none] [] g (f_X6_storeRule_L2 F c1 n v1 g) (fun (t : St) => .inl (102, [some (.ref (1)), some (.int c1), none, none, none], [], t)) := by
  intro n
  induction n with
  | zero =>
    intro v1 g
    exact gg_none
  | succ n ih =>
    intro v1 g
    rw [f_X6_storeRule_L2]
    refine gg_st (go_iload_n 2 d_X6_storeRule_2 rfl rfl rfl) ?_
    refine gg_st (go_aload_n 0 d_X6_storeRule_3 rfl rfl rfl) ?_
    refine gg_st (go_getR (j := 0) cf6 sC_1 rfl (by decide) fl_X6_12 d_X6_storeRule_4 rfl) ?_
    refine gg_st (go_getI (j := 5) cf1 sC_2 rfl (by decide) fl_X6_176 d_X6_storeRule_7 rfl) ?_
    refine gg_br (br_icmp_ge (tgt := 102) (pc' := 13) d_X6_storeRule_10 (by decide) rfl) (fun h2 => ?_) (fun h2 => ?_)
    · refine gg_st (go_aload_n 0 d_X6_storeRule_13 rfl rfl rfl) ?_
      refine gg_st (go_getR (j := 6) cf6 sC_1 rfl (by decide) fl_X6_32 d_X6_storeRule_14 rfl) ?_
      refine gg_st (go_getR (j := 1) cf0 sC_14 rfl (by decide) fl_X6_129 d_X6_storeRule_17 rfl) ?_
      refine gg_st (go_iload_n 1 d_X6_storeRule_20 rfl rfl rfl) ?_
      refine gg_st (go_aload_n 0 d_X6_storeRule_21 rfl rfl rfl) ?_
      refine gg_st (go_getR (j := 0) cf6 sC_1 rfl (by decide) fl_X6_12 d_X6_storeRule_22 rfl) ?_
      refine gg_st (go_iload_n 2 d_X6_storeRule_25 rfl rfl rfl) ?_
      refine gv_I (k_X1_kindOf l w v1 g) cv_X6_222 sC_2 (Nat.le_of_ble_eq_true rfl) rfl rfl (Nat.le_of_ble_eq_true rfl) d_X6_storeRule_26 rfl (fun x3 => ?_)
      refine gv_V (k_X8_addAgent l w c1 x3 g) cv_X6_259 sC_19 (Nat.le_of_ble_eq_true rfl) rfl rfl (Nat.le_of_ble_eq_true rfl) d_X6_storeRule_29 rfl (fun s4 => ?_)
      refine gg_st (go_aload_n 0 d_X6_storeRule_32 rfl rfl rfl) ?_
      refine gg_st (go_getR (j := 6) cf6 sC_1 rfl (by decide) fl_X6_32 d_X6_storeRule_33 rfl) ?_
      refine gg_st (go_getR (j := 0) cf0 sC_14 rfl (by decide) fl_X6_91 d_X6_storeRule_36 rfl) ?_
      refine gg_st (go_aload_n 0 d_X6_storeRule_39 rfl rfl rfl) ?_
      refine gg_st (go_getR (j := 0) cf6 sC_1 rfl (by decide) fl_X6_12 d_X6_storeRule_40 rfl) ?_
      refine gg_st (go_iload_n 2 d_X6_storeRule_43 rfl rfl rfl) ?_
      refine gv_I (k_X1_kindOf l w v1 s4) cv_X6_222 sC_2 (Nat.le_of_ble_eq_true rfl) rfl rfl (Nat.le_of_ble_eq_true rfl) d_X6_storeRule_44 rfl (fun x5 => ?_)
      refine gv_I (k_X3_portsOf l w (show 15 ∈ st15_65 by decide) x5 s4) cv_X6_167 sC_15 (Nat.le_of_ble_eq_true rfl) rfl rfl (Nat.le_of_ble_eq_true rfl) d_X6_storeRule_47 rfl (fun x6 => ?_)
      refine gg_st (go_istore_n 3 d_X6_storeRule_50 rfl (by decide) (L' := [some (.ref (1)), some (.int c1), some (.int v1), some (.int x6), none]) rfl rfl) ?_
      refine gg_st (go_iconst d_X6_storeRule_51 ci_0 rfl) ?_
      refine gg_st (go_istore 4 d_X6_storeRule_52 (by decide) (L' := [some (.ref (1)), some (.int c1), some (.int v1), some (.int x6), some (.int (0 : Int32))]) rfl rfl) ?_
      refine gg_bind 96 (fun (t13 : St) => [some (.ref (1)), some (.int c1), some (.int v1), none, none]) (fun (t13 : St) => []) (fun (t13 : St) => t13) (g_f_X6_storeRule_L54 l w F c1 v1 x6 F (0 : Int32) s4) (fun t13 => ?_)
      refine gg_st (go_iinc 2 d_X6_storeRule_96 rfl (v := v1 + (1 : Int32)) (by rw [ci_1]) (by decide) (L' := [some (.ref (1)), some (.int c1), some (.int (v1 + (1 : Int32))), none, none]) rfl rfl) ?_
      refine gg_st (go_goto (pc' := 2) d_X6_storeRule_99 (by decide)) ?_
      exact ih (v1 + (1 : Int32)) t13
    · refine gg_st (go_fg [some (.ref (1)), some (.int c1), none, none, none] ⟨rfl, ⟨rfl, trivial⟩⟩) ?_
      exact gg_end rfl
set_option maxRecDepth 20000 in
theorem g_f_X6_storeRule_L104 (l : Launch) (w : Wo) (F : Nat) (c1 : Int32) : ∀ (n : Nat) (v15 : Int32) (g : St), GG l w shC m_X6_storeRule 4 104 [some (.ref (1)), some (.int c1), some (.int v15), none, none] [] g (f_X6_storeRule_L104 F c1 n v15 g) (fun (t : St) => .inl (150, [some (.ref (1)), some (.int c1), none, none, none], [], t)) := by
  intro n
  induction n with
  | zero =>
    intro v15 g
    exact gg_none
  | succ n ih =>
    intro v15 g
    rw [f_X6_storeRule_L104]
    refine gg_st (go_iload_n 2 d_X6_storeRule_104 rfl rfl rfl) ?_
    refine gg_st (go_bipush d_X6_storeRule_105 cb_8 rfl) ?_
    refine gg_br (br_icmp_ge (tgt := 150) (pc' := 110) d_X6_storeRule_107 (by decide) rfl) (fun h16 => ?_) (fun h16 => ?_)
    · refine gg_st (go_aload_n 0 d_X6_storeRule_110 rfl rfl rfl) ?_
      refine gg_st (go_iload_n 2 d_X6_storeRule_111 rfl rfl rfl) ?_
      refine gv_I (k_X6_hasSlot l w v15 g) cv_X6_234 sC_1 (Nat.le_of_ble_eq_true rfl) rfl rfl (Nat.le_of_ble_eq_true rfl) d_X6_storeRule_112 rfl (fun x17 => ?_)
      refine gg_bind 144 (fun (t18 : St) => [some (.ref (1)), some (.int c1), some (.int v15), none, none]) (fun (t18 : St) => []) (fun (t18 : St) => t18) ?_ (fun t18 => ?_)
      · refine gg_br (br_if_eq (tgt := 144) (pc' := 118) d_X6_storeRule_115 (by decide) rfl) (fun h19 => ?_) (fun h19 => ?_)
        · exact gg_end rfl
        · refine gg_st (go_aload_n 0 d_X6_storeRule_118 rfl rfl rfl) ?_
          refine gg_st (go_getR (j := 6) cf6 sC_1 rfl (by decide) fl_X6_32 d_X6_storeRule_119 rfl) ?_
          refine gg_st (go_getR (j := 1) cf0 sC_14 rfl (by decide) fl_X6_129 d_X6_storeRule_122 rfl) ?_
          refine gg_st (go_iload_n 1 d_X6_storeRule_125 rfl rfl rfl) ?_
          refine gg_st (go_iload_n 2 d_X6_storeRule_126 rfl rfl rfl) ?_
          refine gs_I (k_X11_endCode l w v15 g) cs_X6_264 (Nat.le_of_ble_eq_true rfl) rfl rfl (Nat.le_of_ble_eq_true rfl) d_X6_storeRule_127 rfl (fun x20 => ?_)
          refine gg_st (go_aload_n 0 d_X6_storeRule_130 rfl rfl rfl) ?_
          refine gg_st (go_getR (j := 0) cf6 sC_1 rfl (by decide) fl_X6_12 d_X6_storeRule_131 rfl) ?_
          refine gg_st (go_iload_n 2 d_X6_storeRule_134 rfl rfl rfl) ?_
          refine gs_I (k_X1_outerPoint l w v15 g) cs_X6_160 (Nat.le_of_ble_eq_true rfl) rfl rfl (Nat.le_of_ble_eq_true rfl) d_X6_storeRule_135 rfl (fun x21 => ?_)
          refine gv_IS (k_X1_farCode l w F x21 g) cv_X6_228 sC_2 (Nat.le_of_ble_eq_true rfl) rfl rfl (Nat.le_of_ble_eq_true rfl) d_X6_storeRule_138 rfl (fun x22 => ?_)
          refine gv_V (k_X8_setWire l w c1 x20 x22.1 x22.2) cv_X6_261 sC_19 (Nat.le_of_ble_eq_true rfl) rfl rfl (Nat.le_of_ble_eq_true rfl) d_X6_storeRule_141 rfl (fun s23 => ?_)
          exact gg_end rfl
      · refine gg_st (go_iinc 2 d_X6_storeRule_144 rfl (v := v15 + (1 : Int32)) (by rw [ci_1]) (by decide) (L' := [some (.ref (1)), some (.int c1), some (.int (v15 + (1 : Int32))), none, none]) rfl rfl) ?_
        refine gg_st (go_goto (pc' := 104) d_X6_storeRule_147 (by decide)) ?_
        exact ih (v15 + (1 : Int32)) t18
    · refine gg_st (go_fg [some (.ref (1)), some (.int c1), none, none, none] ⟨rfl, ⟨rfl, trivial⟩⟩) ?_
      exact gg_end rfl
set_option maxRecDepth 20000 in
theorem k_X6_storeRule (l : Launch) (w : Wo) (F : Nat) (p1 : Int32) (σ : St) : K l w shC m_X6_storeRule 4 [.ref (1), .int p1] σ (f_X6_storeRule F p1 σ) (rV) := by
  refine k_of (L := [some (.ref (1)), some (.int p1), none, none, none]) (plainFor_of_name (by decide +kernel)) 3 rfl (Nat.le_of_ble_eq_true rfl) ?_
  unfold f_X6_storeRule
  refine gg_st (go_iconst d_X6_storeRule_0 ci_0 rfl) ?_
  refine gg_st (go_istore_n 2 d_X6_storeRule_1 rfl (by decide) (L' := [some (.ref (1)), some (.int p1), some (.int (0 : Int32)), none, none]) rfl rfl) ?_
  refine gg_bind 102 (fun (t14 : St) => [some (.ref (1)), some (.int p1), none, none, none]) (fun (t14 : St) => []) (fun (t14 : St) => t14) (g_f_X6_storeRule_L2 l w F p1 F (0 : Int32) σ) (fun t14 => ?_)
  refine gg_st (go_iconst d_X6_storeRule_102 ci_0 rfl) ?_
  refine gg_st (go_istore_n 2 d_X6_storeRule_103 rfl (by decide) (L' := [some (.ref (1)), some (.int p1), some (.int (0 : Int32)), none, none]) rfl rfl) ?_
  refine gg_bind 150 (fun (t24 : St) => [some (.ref (1)), some (.int p1), none, none, none]) (fun (t24 : St) => []) (fun (t24 : St) => t24) (g_f_X6_storeRule_L104 l w F p1 F (0 : Int32) t14) (fun t24 => ?_)
  refine gg_st (go_aload_n 0 d_X6_storeRule_150 rfl rfl rfl) ?_
  refine gg_st (go_getR (j := 6) cf6 sC_1 rfl (by decide) fl_X6_32 d_X6_storeRule_151 rfl) ?_
  refine gg_st (go_getR (j := 1) cf0 sC_14 rfl (by decide) fl_X6_129 d_X6_storeRule_154 rfl) ?_
  refine gg_st (go_iload_n 1 d_X6_storeRule_157 rfl rfl rfl) ?_
  refine gg_st (go_aload_n 0 d_X6_storeRule_158 rfl rfl rfl) ?_
  refine gg_st (go_getR (j := 0) cf6 sC_1 rfl (by decide) fl_X6_12 d_X6_storeRule_159 rfl) ?_
  refine gv_IS (k_X1_countRings l w F  t24) cv_X6_267 sC_2 (Nat.le_of_ble_eq_true rfl) rfl rfl (Nat.le_of_ble_eq_true rfl) d_X6_storeRule_162 rfl (fun x25 => ?_)
  refine gv_V (k_X8_setRings l w p1 x25.1 x25.2) cv_X6_271 sC_19 (Nat.le_of_ble_eq_true rfl) rfl rfl (Nat.le_of_ble_eq_true rfl) d_X6_storeRule_165 rfl (fun s26 => ?_)
  exact gg_vret rfl d_X6_storeRule_168 rfl
def f_X8_isFull (σ : St) : Int32 :=
  if (60 : Int32) ≤ (σ.1 (19) 7) then (
    (1 : Int32))
  else (
    (0 : Int32))
set_option maxRecDepth 20000 in
theorem k_X8_isFull (l : Launch) (w : Wo) (σ : St) : K l w shC m_X8_isFull 1 [.ref (19)] σ (some (f_X8_isFull σ)) (rI σ) := by
  refine k_of (L := [some (.ref (19))]) (plainFor_of_name (by decide +kernel)) 0 rfl (Nat.le_of_ble_eq_true rfl) ?_
  unfold f_X8_isFull
  refine gg_st (go_aload_n 0 d_X8_isFull_0 rfl rfl rfl) ?_
  refine gg_st (go_getI (j := 7) cf8 sC_19 rfl (by decide) fl_X8_39 d_X8_isFull_1 rfl) ?_
  refine gg_st (go_bipush d_X8_isFull_4 cb_60 rfl) ?_
  refine gg_brv (f := fun z => some z) (br_icmp_lt (tgt := 13) (pc' := 9) d_X8_isFull_6 (by decide) rfl) (fun h1 => ?_) (fun h1 => ?_)
  · refine gg_st (go_iconst d_X8_isFull_9 ci_1 rfl) ?_
    refine gg_st (go_goto (pc' := 14) d_X8_isFull_10 (by decide)) ?_
    exact gg_zret (Or.inr rfl) rfl d_X8_isFull_14 rfl
  · refine gg_st (go_iconst d_X8_isFull_13 ci_0 rfl) ?_
    exact gg_zret (Or.inl rfl) rfl d_X8_isFull_14 rfl
def f_X8_add (p1 : Int32) (p2 : Int32) (σ : St) : Option (Int32 × St) :=
  Option.bind (some (f_X8_isFull σ)) fun x1 =>
  if (x1 = 0) ∧ ((¬ ((f_X11_isInside p1 (16 : Int32)) = 0)) ∧ (¬ ((f_X11_isInside p2 (16 : Int32)) = 0))) then (
    Option.bind (some (σ.1 (19) 7)) fun x2 =>
    if inb ((p1 * (16 : Int32)) + p2) 256 then (
      Option.bind (some (seti σ (20) (ix ((p1 * (16 : Int32)) + p2)) x2)) fun s4 =>
      if inb ((p2 * (16 : Int32)) + p1) 256 then (
        Option.bind (some (seti s4 (20) (ix ((p2 * (16 : Int32)) + p1)) x2)) fun s6 =>
        if inb x2 60 then (
          Option.bind (some (seti s6 (21) (ix x2) p1)) fun s8 =>
          if inb x2 60 then (
            Option.bind (some (seti s8 (22) (ix x2) (0 : Int32))) fun s10 =>
            if inb x2 60 then (
              Option.bind (some (seti s10 (23) (ix x2) (0 : Int32))) fun s12 =>
              Option.bind (some (seti s12 (19) 7 ((s12.1 (19) 7) + (1 : Int32)))) fun s13 =>
              some (x2, s13))
            else none)
          else none)
        else none)
      else none)
    else none)
  else (
    some ((-1 : Int32), σ))
set_option maxRecDepth 20000 in
theorem k_X8_add (l : Launch) (w : Wo) (p1 : Int32) (p2 : Int32) (σ : St) : K l w shC m_X8_add 2 [.ref (19), .int p1, .int p2] σ (f_X8_add p1 p2 σ) (rIS) := by
  refine k_of (L := [some (.ref (19)), some (.int p1), some (.int p2), none]) (plainFor_of_name (by decide +kernel)) 1 rfl (Nat.le_of_ble_eq_true rfl) ?_
  unfold f_X8_add
  refine gg_st (go_aload_n 0 d_X8_add_0 rfl rfl rfl) ?_
  refine gv_I (k_X8_isFull l w  σ) cv_X8_47 sC_19 (Nat.le_of_ble_eq_true rfl) rfl rfl (Nat.le_of_ble_eq_true rfl) d_X8_add_1 rfl (fun x1 => ?_)
  refine gg_two (c := (x1 = 0) ∧ ((¬ ((f_X11_isInside p1 (16 : Int32)) = 0)) ∧ (¬ ((f_X11_isInside p2 (16 : Int32)) = 0)))) (pA := 27) (pB := 25) (LL := [some (.ref (19)), some (.int p1), some (.int p2), none]) (ss := []) ?_ ?_ (fun hA14 hB15 => ?_)
  · refine gg_st (go_aload_n 0 d_X8_add_27 rfl rfl rfl) ?_
    refine gg_st (go_getI (j := 7) cf8 sC_19 rfl (by decide) fl_X8_39 d_X8_add_28 rfl) ?_
    refine gg_nm (fun _ => [some (.ref (19)), some (.int p1), some (.int p2), none]) (fun (x2 : Int32) => [.int x2]) (fun x2 => ?_)
    refine gg_st (go_istore_n 3 d_X8_add_31 rfl (by decide) (L' := [some (.ref (19)), some (.int p1), some (.int p2), some (.int x2)]) rfl rfl) ?_
    refine gg_st (go_aload_n 0 d_X8_add_32 rfl rfl rfl) ?_
    refine gg_st (go_getR (j := 0) cf8 sC_19 rfl (by decide) fl_X8_9 d_X8_add_33 rfl) ?_
    refine gg_st (go_iload_n 1 d_X8_add_36 rfl rfl rfl) ?_
    refine gg_st (go_bipush d_X8_add_37 cb_16 rfl) ?_
    refine gg_st (go_imul d_X8_add_39 rfl) ?_
    refine gg_st (go_iload_n 2 d_X8_add_40 rfl rfl rfl) ?_
    refine gg_st (go_iadd d_X8_add_41 rfl) ?_
    refine gg_st (go_iload_n 3 d_X8_add_42 rfl rfl rfl) ?_
    refine gg_gd (fun h3 => ?_)
    refine gg_st (go_iast sC_20 h3 d_X8_add_43 rfl) ?_
    refine gg_som (fun s4 => ?_)
    refine gg_st (go_aload_n 0 d_X8_add_44 rfl rfl rfl) ?_
    refine gg_st (go_getR (j := 0) cf8 sC_19 rfl (by decide) fl_X8_9 d_X8_add_45 rfl) ?_
    refine gg_st (go_iload_n 2 d_X8_add_48 rfl rfl rfl) ?_
    refine gg_st (go_bipush d_X8_add_49 cb_16 rfl) ?_
    refine gg_st (go_imul d_X8_add_51 rfl) ?_
    refine gg_st (go_iload_n 1 d_X8_add_52 rfl rfl rfl) ?_
    refine gg_st (go_iadd d_X8_add_53 rfl) ?_
    refine gg_st (go_iload_n 3 d_X8_add_54 rfl rfl rfl) ?_
    refine gg_gd (fun h5 => ?_)
    refine gg_st (go_iast sC_20 h5 d_X8_add_55 rfl) ?_
    refine gg_som (fun s6 => ?_)
    refine gg_st (go_aload_n 0 d_X8_add_56 rfl rfl rfl) ?_
    refine gg_st (go_getR (j := 1) cf8 sC_19 rfl (by decide) fl_X8_15 d_X8_add_57 rfl) ?_
    refine gg_st (go_iload_n 3 d_X8_add_60 rfl rfl rfl) ?_
    refine gg_st (go_iload_n 1 d_X8_add_61 rfl rfl rfl) ?_
    refine gg_gd (fun h7 => ?_)
    refine gg_st (go_iast sC_21 h7 d_X8_add_62 rfl) ?_
    refine gg_som (fun s8 => ?_)
    refine gg_st (go_aload_n 0 d_X8_add_63 rfl rfl rfl) ?_
    refine gg_st (go_getR (j := 2) cf8 sC_19 rfl (by decide) fl_X8_18 d_X8_add_64 rfl) ?_
    refine gg_st (go_iload_n 3 d_X8_add_67 rfl rfl rfl) ?_
    refine gg_st (go_iconst d_X8_add_68 ci_0 rfl) ?_
    refine gg_gd (fun h9 => ?_)
    refine gg_st (go_iast sC_22 h9 d_X8_add_69 rfl) ?_
    refine gg_som (fun s10 => ?_)
    refine gg_st (go_aload_n 0 d_X8_add_70 rfl rfl rfl) ?_
    refine gg_st (go_getR (j := 3) cf8 sC_19 rfl (by decide) fl_X8_21 d_X8_add_71 rfl) ?_
    refine gg_st (go_iload_n 3 d_X8_add_74 rfl rfl rfl) ?_
    refine gg_st (go_iconst d_X8_add_75 ci_0 rfl) ?_
    refine gg_gd (fun h11 => ?_)
    refine gg_st (go_iast sC_23 h11 d_X8_add_76 rfl) ?_
    refine gg_som (fun s12 => ?_)
    refine gg_st (go_aload_n 0 d_X8_add_77 rfl rfl rfl) ?_
    refine gg_st (go_dup d_X8_add_78 rfl rfl) ?_
    refine gg_st (go_getI (j := 7) cf8 sC_19 rfl (by decide) fl_X8_39 d_X8_add_79 rfl) ?_
    refine gg_st (go_iconst d_X8_add_82 ci_1 rfl) ?_
    refine gg_st (go_iadd d_X8_add_83 rfl) ?_
    refine gg_st (go_putI (j := 7) cf8 sC_19 rfl (by decide) rfl rfl fl_X8_39 d_X8_add_84 rfl) ?_
    refine gg_som (fun s13 => ?_)
    refine gg_st (go_iload_n 3 d_X8_add_87 rfl rfl rfl) ?_
    exact gg_iret rfl d_X8_add_88 rfl
  · refine gg_st (go_iconst d_X8_add_25 ci_m1 rfl) ?_
    exact gg_iret rfl d_X8_add_26 rfl
  refine gg_brs (br_if_ne (tgt := 25) (pc' := 7) d_X8_add_4 (by decide) rfl) (fun h16 => ?_) (fun h16 => ?_)
  · refine gg_st (go_iload_n 1 d_X8_add_7 rfl rfl rfl) ?_
    refine gg_st (go_bipush d_X8_add_8 cb_16 rfl) ?_
    refine gg_st (go_sI (k_X11_isInside l w p1 (16 : Int32) σ) cs_X8_43 (Nat.le_of_ble_eq_true rfl) rfl rfl (Nat.le_of_ble_eq_true rfl) d_X8_add_10 rfl) ?_
    refine gg_brs (br_if_eq (tgt := 25) (pc' := 16) d_X8_add_13 (by decide) rfl) (fun h17 => ?_) (fun h17 => ?_)
    · exact gg_eq (if_neg (fun z => (fun z => (fun z => z h17) z.1) z.2)) hB15
    · refine gg_st (go_iload_n 2 d_X8_add_16 rfl rfl rfl) ?_
      refine gg_st (go_bipush d_X8_add_17 cb_16 rfl) ?_
      refine gg_st (go_sI (k_X11_isInside l w p2 (16 : Int32) σ) cs_X8_43 (Nat.le_of_ble_eq_true rfl) rfl rfl (Nat.le_of_ble_eq_true rfl) d_X8_add_19 rfl) ?_
      refine gg_brs (br_if_ne (tgt := 27) (pc' := 25) d_X8_add_22 (by decide) rfl) (fun h18 => ?_) (fun h18 => ?_)
      · exact gg_eq (if_neg (fun z => (fun z => (fun z => z h18) z.2) z.2)) hB15
      · exact gg_eq (if_pos ⟨h16, ⟨h17, h18⟩⟩) hA14
  · exact gg_eq (if_neg (fun z => h16 z.1)) hB15
