def f_X6_readName (F : Nat) (p1 : Int32) (σ : St) : Option (Int32 × St) :=
  Option.bind (
    if (12 : Int32) ≤ p1 then (
      some ((-1 : Int32), σ))
    else (
      Option.bind (f_X1_nameNumber F (σ.2 (9) 9) σ) fun x3 =>
      some (x3.1, x3.2))) fun t1 =>
  if t1.1 = (-1 : Int32) then (
    Option.bind (f_X6_refuse (4 : Int32) t1.2) fun s5 =>
    some ((-1 : Int32), s5))
  else (
    Option.bind (f_X9_advance t1.2) fun s6 =>
    Option.bind (f_X1_stand t1.1 s6) fun x7 =>
    some (x7.1, x7.2))
set_option maxRecDepth 20000 in
theorem k_X6_readName (l : Launch) (w : Wo) (F : Nat) (p1 : Int32) (σ : St) : K l w shC m_X6_readName 3 [.ref (1), .int p1] σ (f_X6_readName F p1 σ) (rIS) := by
  refine k_of (L := [some (.ref (1)), some (.int p1), none]) (plainFor_of_name (by decide +kernel)) 1 rfl (Nat.le_of_ble_eq_true rfl) ?_
  unfold f_X6_readName
  refine gg_st (go_iload_n 1 d_X6_readName_0 rfl rfl rfl) ?_
  refine gg_st (go_bipush d_X6_readName_1 cb_12 rfl) ?_
  refine gg_bind 24 (fun (t1 : Int32 × St) => [some (.ref (1)), none, none]) (fun (t1 : Int32 × St) => [.int t1.1]) (fun (t1 : Int32 × St) => t1.2) ?_ (fun t1 => ?_)
  · refine gg_br (br_icmp_lt (tgt := 10) (pc' := 6) d_X6_readName_3 (by decide) rfl) (fun h2 => ?_) (fun h2 => ?_)
    · refine gg_st (go_iconst d_X6_readName_6 ci_m1 rfl) ?_
      refine gg_st (go_goto (pc' := 24) d_X6_readName_7 (by decide)) ?_
      refine gg_st (go_fg [some (.ref (1)), none, none] ⟨rfl, trivial⟩) ?_
      exact gg_end rfl
    · refine gg_st (go_aload_n 0 d_X6_readName_10 rfl rfl rfl) ?_
      refine gg_st (go_getR (j := 0) cf6 sC_1 rfl (by decide) fl_X6_12 d_X6_readName_11 rfl) ?_
      refine gg_st (go_aload_n 0 d_X6_readName_14 rfl rfl rfl) ?_
      refine gg_st (go_getR (j := 5) cf6 sC_1 rfl (by decide) fl_X6_25 d_X6_readName_15 rfl) ?_
      refine gg_st (go_getL (j := 9) cf9 sC_9 rfl (by decide) fl_X6_81 d_X6_readName_18 rfl) ?_
      refine gv_IS (k_X1_nameNumber l w F (σ.2 (9) 9) σ) cv_X6_189 sC_2 (Nat.le_of_ble_eq_true rfl) rfl rfl (Nat.le_of_ble_eq_true rfl) d_X6_readName_21 rfl (fun x3 => ?_)
      refine gg_st (go_fg [some (.ref (1)), none, none] ⟨rfl, trivial⟩) ?_
      exact gg_end rfl
  · refine gg_st (go_istore_n 2 d_X6_readName_24 rfl (by decide) (L' := [some (.ref (1)), none, some (.int t1.1)]) rfl rfl) ?_
    refine gg_st (go_iload_n 2 d_X6_readName_25 rfl rfl rfl) ?_
    refine gg_st (go_iconst d_X6_readName_26 ci_m1 rfl) ?_
    refine gg_br (br_icmp_ne (tgt := 37) (pc' := 30) d_X6_readName_27 (by decide) rfl) (fun h4 => ?_) (fun h4 => ?_)
    · refine gg_st (go_aload_n 0 d_X6_readName_30 rfl rfl rfl) ?_
      refine gg_st (go_iconst d_X6_readName_31 ci_4 rfl) ?_
      refine gv_V (k_X6_refuse l w (4 : Int32) t1.2) cv_X6_101 sC_1 (Nat.le_of_ble_eq_true rfl) rfl rfl (Nat.le_of_ble_eq_true rfl) d_X6_readName_32 rfl (fun s5 => ?_)
      refine gg_st (go_iconst d_X6_readName_35 ci_m1 rfl) ?_
      exact gg_iret rfl d_X6_readName_36 rfl
    · refine gg_st (go_aload_n 0 d_X6_readName_37 rfl rfl rfl) ?_
      refine gg_st (go_getR (j := 5) cf6 sC_1 rfl (by decide) fl_X6_25 d_X6_readName_38 rfl) ?_
      refine gv_V (k_X9_advance l w  t1.2) cv_X6_88 sC_9 (Nat.le_of_ble_eq_true rfl) rfl rfl (Nat.le_of_ble_eq_true rfl) d_X6_readName_41 rfl (fun s6 => ?_)
      refine gg_st (go_aload_n 0 d_X6_readName_44 rfl rfl rfl) ?_
      refine gg_st (go_getR (j := 0) cf6 sC_1 rfl (by decide) fl_X6_12 d_X6_readName_45 rfl) ?_
      refine gg_st (go_iload_n 2 d_X6_readName_48 rfl rfl rfl) ?_
      refine gv_IS (k_X1_stand l w t1.1 s6) cv_X6_192 sC_2 (Nat.le_of_ble_eq_true rfl) rfl rfl (Nat.le_of_ble_eq_true rfl) d_X6_readName_49 rfl (fun x7 => ?_)
      exact gg_iret rfl d_X6_readName_52 rfl
def f_X6_readBracket_L2 (F : Nat) (rec : Int32 → St → Option (Int32 × St)) (c1 : Int32) (c2 : Int32) : Nat → Int32 → St → Option (Int32 × St)
  | 0, _, _ => none
  | n + 1, v1, g =>
    Option.bind (f_X9_advance g) fun s2 =>
    Option.bind (rec (c2 + (1 : Int32)) s2) fun x3 =>
    Option.bind (some (v1 + (1 : Int32))) fun x4 =>
    Option.bind (
      if x4 < (5 : Int32) then (
        Option.bind (some (f_X11_portCode c1 x4)) fun x7 =>
        Option.bind (f_X1_join x7 x3.1 x3.2) fun s8 =>
        some s8)
      else (
        some x3.2)) fun t5 =>
    if ((t5.1 (1) 4) = 0) ∧ (((t5.1 (9) 7) = (44 : Int32)) ∧ (¬ ((4000 : Int32) ≤ x4))) then (
      f_X6_readBracket_L2 F rec c1 c2 n x4 t5)
    else (
      some (x4, t5))
def f_X6_readBracket (F : Nat) (rec : Int32 → St → Option (Int32 × St)) (p1 : Int32) (p2 : Int32) (σ : St) : Option (Int32 × St) :=
  Option.bind (f_X6_readBracket_L2 F rec p1 p2 F (0 : Int32) σ) fun t14 =>
  if (t14.2.1 (1) 4) = 0 then (
    Option.bind (f_X6_pass (41 : Int32) t14.2) fun s16 =>
    some (t14.1, s16))
  else (
    some (t14.1, t14.2))
set_option maxRecDepth 20000 in
theorem g_f_X6_readBracket_L2 (l : Launch) (w : Wo) (F : Nat) (rec : Int32 → St → Option (Int32 × St)) (dr : Nat) (h_rec : ∀ p1 σ, K l w shC m_X6_readTerm dr [.ref 1, .int p1] σ (rec p1 σ) (rIS)) (c1 : Int32) (c2 : Int32) : ∀ (n : Nat) (v1 : Int32) (g : St), GG l w shC m_X6_readBracket (dr + 4) 2 [some (.ref (1)), some (.int c1), some (.int c2), some (.int v1), none] [] g (f_X6_readBracket_L2 F rec c1 c2 n v1 g) (fun (t : Int32 × St) => .inl (66, [some (.ref (1)), none, none, some (.int t.1), none], [], t.2)) := by
  intro n
  induction n with
  | zero =>
    intro v1 g
    exact gg_none
  | succ n ih =>
    intro v1 g
    rw [f_X6_readBracket_L2]
    refine gg_st (go_aload_n 0 d_X6_readBracket_2 rfl rfl rfl) ?_
    refine gg_st (go_getR (j := 5) cf6 sC_1 rfl (by decide) fl_X6_25 d_X6_readBracket_3 rfl) ?_
    refine gv_V (k_X9_advance l w  g) cv_X6_88 sC_9 (by omega) rfl rfl (Nat.le_of_ble_eq_true rfl) d_X6_readBracket_6 rfl (fun s2 => ?_)
    refine gg_st (go_aload_n 0 d_X6_readBracket_9 rfl rfl rfl) ?_
    refine gg_st (go_iload_n 2 d_X6_readBracket_10 rfl rfl rfl) ?_
    refine gg_st (go_iconst d_X6_readBracket_11 ci_1 rfl) ?_
    refine gg_st (go_iadd d_X6_readBracket_12 rfl) ?_
    refine gv_IS (h_rec (c2 + (1 : Int32)) s2) cv_X6_173 sC_1 (by omega) rfl rfl (Nat.le_of_ble_eq_true rfl) d_X6_readBracket_13 rfl (fun x3 => ?_)
    refine gg_st (go_istore 4 d_X6_readBracket_16 (by decide) (L' := [some (.ref (1)), some (.int c1), some (.int c2), some (.int v1), some (.int x3.1)]) rfl rfl) ?_
    refine gg_st (go_iinc 3 d_X6_readBracket_18 rfl (v := v1 + (1 : Int32)) (by rw [ci_1]) (by decide) (L' := [some (.ref (1)), some (.int c1), some (.int c2), some (.int (v1 + (1 : Int32))), some (.int x3.1)]) rfl rfl) ?_
    refine gg_nm (fun (x4 : Int32) => [some (.ref (1)), some (.int c1), some (.int c2), some (.int x4), some (.int x3.1)]) (fun _ => []) (fun x4 => ?_)
    refine gg_st (go_iload_n 3 d_X6_readBracket_21 rfl rfl rfl) ?_
    refine gg_st (go_iconst d_X6_readBracket_22 ci_5 rfl) ?_
    refine gg_bind 40 (fun (t5 : St) => [some (.ref (1)), some (.int c1), some (.int c2), some (.int x4), none]) (fun (t5 : St) => []) (fun (t5 : St) => t5) ?_ (fun t5 => ?_)
    · refine gg_br (br_icmp_ge (tgt := 40) (pc' := 26) d_X6_readBracket_23 (by decide) rfl) (fun h6 => ?_) (fun h6 => ?_)
      · refine gg_st (go_aload_n 0 d_X6_readBracket_26 rfl rfl rfl) ?_
        refine gg_st (go_getR (j := 0) cf6 sC_1 rfl (by decide) fl_X6_12 d_X6_readBracket_27 rfl) ?_
        refine gg_st (go_iload_n 1 d_X6_readBracket_30 rfl rfl rfl) ?_
        refine gg_st (go_iload_n 3 d_X6_readBracket_31 rfl rfl rfl) ?_
        refine gs_I (k_X11_portCode l w c1 x4 x3.2) cs_X6_186 (by omega) rfl rfl (Nat.le_of_ble_eq_true rfl) d_X6_readBracket_32 rfl (fun x7 => ?_)
        refine gg_st (go_iload 4 d_X6_readBracket_35 rfl rfl) ?_
        refine gv_V (k_X1_join l w x7 x3.1 x3.2) cv_X6_163 sC_2 (by omega) rfl rfl (Nat.le_of_ble_eq_true rfl) d_X6_readBracket_37 rfl (fun s8 => ?_)
        refine gg_st (go_fg [some (.ref (1)), some (.int c1), some (.int c2), some (.int x4), none] ⟨rfl, ⟨rfl, ⟨rfl, ⟨rfl, trivial⟩⟩⟩⟩) ?_
        exact gg_end rfl
      · refine gg_st (go_fg [some (.ref (1)), some (.int c1), some (.int c2), some (.int x4), none] ⟨rfl, ⟨rfl, ⟨rfl, ⟨rfl, trivial⟩⟩⟩⟩) ?_
        exact gg_end rfl
    · refine gg_st (go_aload_n 0 d_X6_readBracket_40 rfl rfl rfl) ?_
      refine gg_st (go_getI (j := 4) cf6 sC_1 rfl (by decide) fl_X6_47 d_X6_readBracket_41 rfl) ?_
      refine gg_two (c := ((t5.1 (1) 4) = 0) ∧ (((t5.1 (9) 7) = (44 : Int32)) ∧ (¬ ((4000 : Int32) ≤ x4)))) (pA := 2) (pB := 66) (LL := [some (.ref (1)), some (.int c1), some (.int c2), some (.int x4), none]) (ss := []) ?_ ?_ (fun hA9 hB10 => ?_)
      · exact ih x4 t5
      · refine gg_st (go_fg [some (.ref (1)), none, none, some (.int x4), none] ⟨rfl, ⟨rfl, trivial⟩⟩) ?_
        exact gg_end rfl
      refine gg_brs (br_if_ne (tgt := 66) (pc' := 47) d_X6_readBracket_44 (by decide) rfl) (fun h11 => ?_) (fun h11 => ?_)
      · refine gg_st (go_aload_n 0 d_X6_readBracket_47 rfl rfl rfl) ?_
        refine gg_st (go_getR (j := 5) cf6 sC_1 rfl (by decide) fl_X6_25 d_X6_readBracket_48 rfl) ?_
        refine gg_st (go_getI (j := 7) cf9 sC_9 rfl (by decide) fl_X6_53 d_X6_readBracket_51 rfl) ?_
        refine gg_st (go_bipush d_X6_readBracket_54 cb_44 rfl) ?_
        refine gg_brs (br_icmp_ne (tgt := 66) (pc' := 59) d_X6_readBracket_56 (by decide) rfl) (fun h12 => ?_) (fun h12 => ?_)
        · refine gg_st (go_iload_n 3 d_X6_readBracket_59 rfl rfl rfl) ?_
          refine gg_st (go_sipush d_X6_readBracket_60 cs_4000 rfl) ?_
          refine gg_brs (br_icmp_lt (tgt := 2) (pc' := 66) d_X6_readBracket_63 (by decide) rfl) (fun h13 => ?_) (fun h13 => ?_)
          · exact gg_eq (if_neg (fun z => (fun z => (fun z => z h13) z.2) z.2)) hB10
          · exact gg_eq (if_pos ⟨h11, ⟨h12, h13⟩⟩) hA9
        · exact gg_eq (if_neg (fun z => (fun z => h12 z.1) z.2)) hB10
      · exact gg_eq (if_neg (fun z => h11 z.1)) hB10
set_option maxRecDepth 20000 in
theorem k_X6_readBracket (l : Launch) (w : Wo) (F : Nat) (rec : Int32 → St → Option (Int32 × St)) (dr : Nat) (h_rec : ∀ p1 σ, K l w shC m_X6_readTerm dr [.ref 1, .int p1] σ (rec p1 σ) (rIS)) (p1 : Int32) (p2 : Int32) (σ : St) : K l w shC m_X6_readBracket (dr + 4) [.ref (1), .int p1, .int p2] σ (f_X6_readBracket F rec p1 p2 σ) (rIS) := by
  refine k_of (L := [some (.ref (1)), some (.int p1), some (.int p2), none, none]) (plainFor_of_name (by decide +kernel)) 2 rfl (Nat.le_of_ble_eq_true rfl) ?_
  unfold f_X6_readBracket
  refine gg_st (go_iconst d_X6_readBracket_0 ci_0 rfl) ?_
  refine gg_st (go_istore_n 3 d_X6_readBracket_1 rfl (by decide) (L' := [some (.ref (1)), some (.int p1), some (.int p2), some (.int (0 : Int32)), none]) rfl rfl) ?_
  refine gg_bind 66 (fun (t14 : Int32 × St) => [some (.ref (1)), none, none, some (.int t14.1), none]) (fun (t14 : Int32 × St) => []) (fun (t14 : Int32 × St) => t14.2) (g_f_X6_readBracket_L2 l w F rec dr h_rec p1 p2 F (0 : Int32) σ) (fun t14 => ?_)
  refine gg_st (go_aload_n 0 d_X6_readBracket_66 rfl rfl rfl) ?_
  refine gg_st (go_getI (j := 4) cf6 sC_1 rfl (by decide) fl_X6_47 d_X6_readBracket_67 rfl) ?_
  refine gg_br (br_if_ne (tgt := 79) (pc' := 73) d_X6_readBracket_70 (by decide) rfl) (fun h15 => ?_) (fun h15 => ?_)
  · refine gg_st (go_aload_n 0 d_X6_readBracket_73 rfl rfl rfl) ?_
    refine gg_st (go_bipush d_X6_readBracket_74 cb_41 rfl) ?_
    refine gv_V (k_X6_pass l w (41 : Int32) t14.2) cv_X6_119 sC_1 (by omega) rfl rfl (Nat.le_of_ble_eq_true rfl) d_X6_readBracket_76 rfl (fun s16 => ?_)
    refine gg_st (go_iload_n 3 d_X6_readBracket_79 rfl rfl rfl) ?_
    exact gg_iret rfl d_X6_readBracket_80 rfl
  · refine gg_st (go_iload_n 3 d_X6_readBracket_79 rfl rfl rfl) ?_
    exact gg_iret rfl d_X6_readBracket_80 rfl
def f_X6_readTerm (F : Nat) : Nat → Int32 → St → Option (Int32 × St)
  | 0, _, _ => none
  | D + 1, p1, σ =>
    if (σ.1 (9) 7) = (2 : Int32) then (
      Option.bind (f_X6_readName F p1 σ) fun x2 =>
      some (x2.1, x2.2))
    else (
      Option.bind (
        if (σ.1 (9) 7) = (3 : Int32) then (
          Option.bind (f_X3_find F (σ.2 (9) 9) σ) fun x5 =>
          some x5)
        else (
          some (-1 : Int32))) fun t3 =>
      if (σ.1 (9) 7) = (3 : Int32) then (
        if t3 = (-1 : Int32) then (
          Option.bind (f_X6_refuse (3 : Int32) σ) fun s8 =>
          some ((-1 : Int32), s8))
        else (
          Option.bind (some (fun (t9 : St) =>
            Option.bind (f_X6_refuse (4 : Int32) t9) fun s11 =>
            some ((-1 : Int32), s11))) fun jp10 =>
          if p1 < (12 : Int32) then (
            Option.bind (
              if (σ.1 (1) 2) = 0 then (
                some (200 : Int32))
              else (
                some (12 : Int32))) fun t13 =>
            if t13 ≤ (σ.1 (2) 5) then (
              jp10 σ)
            else (
              Option.bind (some (σ.1 (9) 8)) fun x16 =>
              Option.bind (f_X1_addAgent t3 σ) fun x17 =>
              Option.bind (f_X9_advance x17.2) fun s18 =>
              Option.bind (
                if (s18.1 (9) 7) = (40 : Int32) then (
                  Option.bind (f_X6_readBracket F (f_X6_readTerm F D) x17.1 p1 s18) fun x21 =>
                  some (x21.1, x21.2))
                else (
                  some ((0 : Int32), s18))) fun t19 =>
              Option.bind (f_X6_askBracket t3 t19.1 x16 t19.2) fun s22 =>
              Option.bind (some (f_X11_portCode x17.1 (0 : Int32))) fun x23 =>
              some (x23, s22)))
          else (
            jp10 σ)))
      else (
        Option.bind (f_X6_refuseToken σ) fun s24 =>
        some ((-1 : Int32), s24)))
set_option maxRecDepth 20000 in
theorem k_X6_readTerm (l : Launch) (w : Wo) (F : Nat) : ∀ (D : Nat) (p1 : Int32) (σ : St), K l w shC m_X6_readTerm (5 * (D + 1)) [.ref (1), .int p1] σ (f_X6_readTerm F D p1 σ) (rIS) := by
  intro D
  induction D with
  | zero =>
    intro p1 σ
    exact k_none
  | succ D ih =>
    intro p1 σ
    refine k_of (L := [some (.ref (1)), some (.int p1), none, none, none, none]) (plainFor_of_name (by decide +kernel)) 4 rfl (Nat.le_of_ble_eq_true rfl) ?_
    rw [f_X6_readTerm]
    refine gg_st (go_aload_n 0 d_X6_readTerm_0 rfl rfl rfl) ?_
    refine gg_st (go_getR (j := 5) cf6 sC_1 rfl (by decide) fl_X6_25 d_X6_readTerm_1 rfl) ?_
    refine gg_st (go_getI (j := 7) cf9 sC_9 rfl (by decide) fl_X6_53 d_X6_readTerm_4 rfl) ?_
    refine gg_st (go_iconst d_X6_readTerm_7 ci_2 rfl) ?_
    refine gg_br (br_icmp_ne (tgt := 17) (pc' := 11) d_X6_readTerm_8 (by decide) rfl) (fun h1 => ?_) (fun h1 => ?_)
    · refine gg_st (go_aload_n 0 d_X6_readTerm_11 rfl rfl rfl) ?_
      refine gg_st (go_iload_n 1 d_X6_readTerm_12 rfl rfl rfl) ?_
      refine gv_IS (k_X6_readName l w F p1 σ) cv_X6_157 sC_1 (by omega) rfl rfl (Nat.le_of_ble_eq_true rfl) d_X6_readTerm_13 rfl (fun x2 => ?_)
      exact gg_iret rfl d_X6_readTerm_16 rfl
    · refine gg_st (go_aload_n 0 d_X6_readTerm_17 rfl rfl rfl) ?_
      refine gg_st (go_getR (j := 5) cf6 sC_1 rfl (by decide) fl_X6_25 d_X6_readTerm_18 rfl) ?_
      refine gg_st (go_getI (j := 7) cf9 sC_9 rfl (by decide) fl_X6_53 d_X6_readTerm_21 rfl) ?_
      refine gg_st (go_iconst d_X6_readTerm_24 ci_3 rfl) ?_
      refine gg_bind 49 (fun (t3 : Int32) => [some (.ref (1)), some (.int p1), none, none, none, none]) (fun (t3 : Int32) => [.int t3]) (fun (t3 : Int32) => σ) ?_ (fun t3 => ?_)
      · refine gg_br (br_icmp_ne (tgt := 48) (pc' := 28) d_X6_readTerm_25 (by decide) rfl) (fun h4 => ?_) (fun h4 => ?_)
        · refine gg_st (go_aload_n 0 d_X6_readTerm_28 rfl rfl rfl) ?_
          refine gg_st (go_getR (j := 6) cf6 sC_1 rfl (by decide) fl_X6_32 d_X6_readTerm_29 rfl) ?_
          refine gg_st (go_getR (j := 0) cf0 sC_14 rfl (by decide) fl_X6_91 d_X6_readTerm_32 rfl) ?_
          refine gg_st (go_aload_n 0 d_X6_readTerm_35 rfl rfl rfl) ?_
          refine gg_st (go_getR (j := 5) cf6 sC_1 rfl (by decide) fl_X6_25 d_X6_readTerm_36 rfl) ?_
          refine gg_st (go_getL (j := 9) cf9 sC_9 rfl (by decide) fl_X6_81 d_X6_readTerm_39 rfl) ?_
          refine gv_I (k_X3_find l w F (σ.2 (9) 9) σ) cv_X6_95 sC_15 (by omega) rfl rfl (Nat.le_of_ble_eq_true rfl) d_X6_readTerm_42 rfl (fun x5 => ?_)
          refine gg_st (go_goto (pc' := 49) d_X6_readTerm_45 (by decide)) ?_
          exact gg_end rfl
        · refine gg_st (go_iconst d_X6_readTerm_48 ci_m1 rfl) ?_
          exact gg_end rfl
      · refine gg_st (go_istore_n 2 d_X6_readTerm_49 rfl (by decide) (L' := [some (.ref (1)), some (.int p1), some (.int t3), none, none, none]) rfl rfl) ?_
        refine gg_st (go_aload_n 0 d_X6_readTerm_50 rfl rfl rfl) ?_
        refine gg_st (go_getR (j := 5) cf6 sC_1 rfl (by decide) fl_X6_25 d_X6_readTerm_51 rfl) ?_
        refine gg_st (go_getI (j := 7) cf9 sC_9 rfl (by decide) fl_X6_53 d_X6_readTerm_54 rfl) ?_
        refine gg_st (go_iconst d_X6_readTerm_57 ci_3 rfl) ?_
        refine gg_br (br_icmp_eq (tgt := 68) (pc' := 61) d_X6_readTerm_58 (by decide) rfl) (fun h6 => ?_) (fun h6 => ?_)
        · refine gg_st (go_iload_n 2 d_X6_readTerm_68 rfl rfl rfl) ?_
          refine gg_st (go_iconst d_X6_readTerm_69 ci_m1 rfl) ?_
          refine gg_br (br_icmp_ne (tgt := 81) (pc' := 73) d_X6_readTerm_70 (by decide) rfl) (fun h7 => ?_) (fun h7 => ?_)
          · refine gg_st (go_aload_n 0 d_X6_readTerm_73 rfl rfl rfl) ?_
            refine gg_st (go_iconst d_X6_readTerm_74 ci_3 rfl) ?_
            refine gv_V (k_X6_refuse l w (3 : Int32) σ) cv_X6_101 sC_1 (by omega) rfl rfl (Nat.le_of_ble_eq_true rfl) d_X6_readTerm_75 rfl (fun s8 => ?_)
            refine gg_st (go_goto (pc' := 185) d_X6_readTerm_78 (by decide)) ?_
            refine gg_st (go_iconst d_X6_readTerm_185 ci_m1 rfl) ?_
            exact gg_iret rfl d_X6_readTerm_186 rfl
          · refine gg_st (go_iload_n 1 d_X6_readTerm_81 rfl rfl rfl) ?_
            refine gg_st (go_bipush d_X6_readTerm_82 cb_12 rfl) ?_
            refine gg_jp 112 (fun (t9 : St) => [some (.ref (1)), none, none, none, none, none]) (fun (t9 : St) => []) (fun (t9 : St) => t9) (fun t9 => ?_) (fun jp10 hjp10 => ?_)
            · refine gg_st (go_aload_n 0 d_X6_readTerm_112 rfl rfl rfl) ?_
              refine gg_st (go_iconst d_X6_readTerm_113 ci_4 rfl) ?_
              refine gv_V (k_X6_refuse l w (4 : Int32) t9) cv_X6_101 sC_1 (by omega) rfl rfl (Nat.le_of_ble_eq_true rfl) d_X6_readTerm_114 rfl (fun s11 => ?_)
              refine gg_st (go_goto (pc' := 185) d_X6_readTerm_117 (by decide)) ?_
              refine gg_st (go_iconst d_X6_readTerm_185 ci_m1 rfl) ?_
              exact gg_iret rfl d_X6_readTerm_186 rfl
            refine gg_br (br_icmp_ge (tgt := 112) (pc' := 87) d_X6_readTerm_84 (by decide) rfl) (fun h12 => ?_) (fun h12 => ?_)
            · refine gg_st (go_aload_n 0 d_X6_readTerm_87 rfl rfl rfl) ?_
              refine gg_st (go_getR (j := 0) cf6 sC_1 rfl (by decide) fl_X6_12 d_X6_readTerm_88 rfl) ?_
              refine gg_st (go_getI (j := 5) cf1 sC_2 rfl (by decide) fl_X6_176 d_X6_readTerm_91 rfl) ?_
              refine gg_st (go_aload_n 0 d_X6_readTerm_94 rfl rfl rfl) ?_
              refine gg_st (go_getI (j := 2) cf6 sC_1 rfl (by decide) fl_X6_137 d_X6_readTerm_95 rfl) ?_
              refine gg_bind 109 (fun (t13 : Int32) => [some (.ref (1)), some (.int p1), some (.int t3), none, none, none]) (fun (t13 : Int32) => [.int t13, .int (σ.1 (2) 5)]) (fun (t13 : Int32) => σ) ?_ (fun t13 => ?_)
              · refine gg_br (br_if_eq (tgt := 106) (pc' := 101) d_X6_readTerm_98 (by decide) rfl) (fun h14 => ?_) (fun h14 => ?_)
                · refine gg_st (go_sipush d_X6_readTerm_106 cs_200 rfl) ?_
                  exact gg_end rfl
                · refine gg_st (go_bipush d_X6_readTerm_101 cb_12 rfl) ?_
                  refine gg_st (go_goto (pc' := 109) d_X6_readTerm_103 (by decide)) ?_
                  exact gg_end rfl
              · refine gg_br (br_icmp_lt (tgt := 120) (pc' := 112) d_X6_readTerm_109 (by decide) rfl) (fun h15 => ?_) (fun h15 => ?_)
                · refine gg_st (go_fg [some (.ref (1)), none, none, none, none, none] ⟨rfl, trivial⟩) ?_
                  exact hjp10 σ
                · refine gg_st (go_aload_n 0 d_X6_readTerm_120 rfl rfl rfl) ?_
                  refine gg_st (go_getR (j := 5) cf6 sC_1 rfl (by decide) fl_X6_25 d_X6_readTerm_121 rfl) ?_
                  refine gg_st (go_getI (j := 8) cf9 sC_9 rfl (by decide) fl_X6_85 d_X6_readTerm_124 rfl) ?_
                  refine gg_nm (fun _ => [some (.ref (1)), some (.int p1), some (.int t3), none, none, none]) (fun (x16 : Int32) => [.int x16]) (fun x16 => ?_)
                  refine gg_st (go_istore_n 3 d_X6_readTerm_127 rfl (by decide) (L' := [some (.ref (1)), some (.int p1), some (.int t3), some (.int x16), none, none]) rfl rfl) ?_
                  refine gg_st (go_aload_n 0 d_X6_readTerm_128 rfl rfl rfl) ?_
                  refine gg_st (go_getR (j := 0) cf6 sC_1 rfl (by decide) fl_X6_12 d_X6_readTerm_129 rfl) ?_
                  refine gg_st (go_iload_n 2 d_X6_readTerm_132 rfl rfl rfl) ?_
                  refine gv_IS (k_X1_addAgent l w t3 σ) cv_X6_179 sC_2 (by omega) rfl rfl (Nat.le_of_ble_eq_true rfl) d_X6_readTerm_133 rfl (fun x17 => ?_)
                  refine gg_st (go_istore 4 d_X6_readTerm_136 (by decide) (L' := [some (.ref (1)), some (.int p1), some (.int t3), some (.int x16), some (.int x17.1), none]) rfl rfl) ?_
                  refine gg_st (go_aload_n 0 d_X6_readTerm_138 rfl rfl rfl) ?_
                  refine gg_st (go_getR (j := 5) cf6 sC_1 rfl (by decide) fl_X6_25 d_X6_readTerm_139 rfl) ?_
                  refine gv_V (k_X9_advance l w  x17.2) cv_X6_88 sC_9 (by omega) rfl rfl (Nat.le_of_ble_eq_true rfl) d_X6_readTerm_142 rfl (fun s18 => ?_)
                  refine gg_st (go_aload_n 0 d_X6_readTerm_145 rfl rfl rfl) ?_
                  refine gg_st (go_getR (j := 5) cf6 sC_1 rfl (by decide) fl_X6_25 d_X6_readTerm_146 rfl) ?_
                  refine gg_st (go_getI (j := 7) cf9 sC_9 rfl (by decide) fl_X6_53 d_X6_readTerm_149 rfl) ?_
                  refine gg_st (go_bipush d_X6_readTerm_152 cb_40 rfl) ?_
                  refine gg_bind 168 (fun (t19 : Int32 × St) => [some (.ref (1)), none, some (.int t3), some (.int x16), some (.int x17.1), none]) (fun (t19 : Int32 × St) => [.int t19.1]) (fun (t19 : Int32 × St) => t19.2) ?_ (fun t19 => ?_)
                  · refine gg_br (br_icmp_ne (tgt := 167) (pc' := 157) d_X6_readTerm_154 (by decide) rfl) (fun h20 => ?_) (fun h20 => ?_)
                    · refine gg_st (go_aload_n 0 d_X6_readTerm_157 rfl rfl rfl) ?_
                      refine gg_st (go_iload 4 d_X6_readTerm_158 rfl rfl) ?_
                      refine gg_st (go_iload_n 1 d_X6_readTerm_160 rfl rfl rfl) ?_
                      refine gv_IS (k_X6_readBracket l w F (f_X6_readTerm F D) _ ih x17.1 p1 s18) cv_X6_182 sC_1 (by omega) rfl rfl (Nat.le_of_ble_eq_true rfl) d_X6_readTerm_161 rfl (fun x21 => ?_)
                      refine gg_st (go_goto (pc' := 168) d_X6_readTerm_164 (by decide)) ?_
                      refine gg_st (go_fg [some (.ref (1)), none, some (.int t3), some (.int x16), some (.int x17.1), none] ⟨rfl, ⟨rfl, ⟨rfl, ⟨rfl, trivial⟩⟩⟩⟩) ?_
                      exact gg_end rfl
                    · refine gg_st (go_iconst d_X6_readTerm_167 ci_0 rfl) ?_
                      refine gg_st (go_fg [some (.ref (1)), none, some (.int t3), some (.int x16), some (.int x17.1), none] ⟨rfl, ⟨rfl, ⟨rfl, ⟨rfl, trivial⟩⟩⟩⟩) ?_
                      exact gg_end rfl
                  · refine gg_st (go_istore 5 d_X6_readTerm_168 (by decide) (L' := [some (.ref (1)), none, some (.int t3), some (.int x16), some (.int x17.1), some (.int t19.1)]) rfl rfl) ?_
                    refine gg_st (go_aload_n 0 d_X6_readTerm_170 rfl rfl rfl) ?_
                    refine gg_st (go_iload_n 2 d_X6_readTerm_171 rfl rfl rfl) ?_
                    refine gg_st (go_iload 5 d_X6_readTerm_172 rfl rfl) ?_
                    refine gg_st (go_iload_n 3 d_X6_readTerm_174 rfl rfl rfl) ?_
                    refine gv_V (k_X6_askBracket l w t3 t19.1 x16 t19.2) cv_X6_153 sC_1 (by omega) rfl rfl (Nat.le_of_ble_eq_true rfl) d_X6_readTerm_175 rfl (fun s22 => ?_)
                    refine gg_st (go_iload 4 d_X6_readTerm_178 rfl rfl) ?_
                    refine gg_st (go_iconst d_X6_readTerm_180 ci_0 rfl) ?_
                    refine gs_I (k_X11_portCode l w x17.1 (0 : Int32) s22) cs_X6_186 (by omega) rfl rfl (Nat.le_of_ble_eq_true rfl) d_X6_readTerm_181 rfl (fun x23 => ?_)
                    exact gg_iret rfl d_X6_readTerm_184 rfl
            · refine gg_st (go_fg [some (.ref (1)), none, none, none, none, none] ⟨rfl, trivial⟩) ?_
              exact hjp10 σ
        · refine gg_st (go_aload_n 0 d_X6_readTerm_61 rfl rfl rfl) ?_
          refine gv_V (k_X6_refuseToken l w  σ) cv_X6_75 sC_1 (by omega) rfl rfl (Nat.le_of_ble_eq_true rfl) d_X6_readTerm_62 rfl (fun s24 => ?_)
          refine gg_st (go_goto (pc' := 185) d_X6_readTerm_65 (by decide)) ?_
          refine gg_st (go_iconst d_X6_readTerm_185 ci_m1 rfl) ?_
          exact gg_iret rfl d_X6_readTerm_186 rfl
def f_X6_readLinks_L4 (F : Nat) : Nat → Int32 → Int32 → St → Option (St)
  | 0, _, _, _ => none
  | n + 1, v1, v2, g =>
    if (v2 < (4000 : Int32)) ∧ (¬ (v1 = 0)) then (
      Option.bind (f_X6_readTerm F 16 (0 : Int32) g) fun x3 =>
      Option.bind (
        if (x3.2.1 (1) 4) = 0 then (
          Option.bind (f_X6_pass (61 : Int32) x3.2) fun s6 =>
          some s6)
        else (
          some x3.2)) fun t4 =>
      Option.bind (
        if (t4.1 (1) 4) = 0 then (
          Option.bind (f_X6_readTerm F 16 (0 : Int32) t4) fun x9 =>
          Option.bind (f_X1_join x3.1 x9.1 x9.2) fun s10 =>
          some s10)
        else (
          some t4)) fun t7 =>
      Option.bind (
        if ((t7.1 (1) 4) = 0) ∧ ((t7.1 (9) 7) = (44 : Int32)) then (
          some (1 : Int32))
        else (
          some (0 : Int32))) fun t11 =>
      Option.bind (
        if t11 = 0 then (
          some t7)
        else (
          Option.bind (f_X9_advance t7) fun s18 =>
          some s18)) fun t16 =>
      f_X6_readLinks_L4 F n t11 (v2 + (1 : Int32)) t16)
    else (
      some g)
def f_X6_readLinks (F : Nat) (σ : St) : Option (St) :=
  Option.bind (f_X6_readLinks_L4 F F (1 : Int32) (0 : Int32) σ) fun t23 =>
  some t23
set_option maxRecDepth 20000 in
theorem g_f_X6_readLinks_L4 (l : Launch) (w : Wo) (F : Nat) : ∀ (n : Nat) (v1 : Int32) (v2 : Int32) (g : St), GG l w shC m_X6_readLinks 86 4 [some (.ref (1)), some (.int v1), some (.int v2), none] [] g (f_X6_readLinks_L4 F n v1 v2 g) (fun (t : St) => .inl (96, [none, none, none, none], [], t)) := by
  intro n
  induction n with
  | zero =>
    intro v1 v2 g
    exact gg_none
  | succ n ih =>
    intro v1 v2 g
    rw [f_X6_readLinks_L4]
    refine gg_st (go_iload_n 2 d_X6_readLinks_4 rfl rfl rfl) ?_
    refine gg_st (go_sipush d_X6_readLinks_5 cs_4000 rfl) ?_
    refine gg_two (c := (v2 < (4000 : Int32)) ∧ (¬ (v1 = 0))) (pA := 15) (pB := 96) (LL := [some (.ref (1)), some (.int v1), some (.int v2), none]) (ss := []) ?_ ?_ (fun hA19 hB20 => ?_)
    · refine gg_st (go_aload_n 0 d_X6_readLinks_15 rfl rfl rfl) ?_
      refine gg_st (go_iconst d_X6_readLinks_16 ci_0 rfl) ?_
      refine gv_IS (k_X6_readTerm l w F 16 (0 : Int32) g) cv_X6_173 sC_1 (Nat.le_of_ble_eq_true rfl) rfl rfl (Nat.le_of_ble_eq_true rfl) d_X6_readLinks_17 rfl (fun x3 => ?_)
      refine gg_st (go_istore_n 3 d_X6_readLinks_20 rfl (by decide) (L' := [some (.ref (1)), some (.int v1), some (.int v2), some (.int x3.1)]) rfl rfl) ?_
      refine gg_st (go_aload_n 0 d_X6_readLinks_21 rfl rfl rfl) ?_
      refine gg_st (go_getI (j := 4) cf6 sC_1 rfl (by decide) fl_X6_47 d_X6_readLinks_22 rfl) ?_
      refine gg_bind 34 (fun (t4 : St) => [some (.ref (1)), none, some (.int v2), some (.int x3.1)]) (fun (t4 : St) => []) (fun (t4 : St) => t4) ?_ (fun t4 => ?_)
      · refine gg_br (br_if_ne (tgt := 34) (pc' := 28) d_X6_readLinks_25 (by decide) rfl) (fun h5 => ?_) (fun h5 => ?_)
        · refine gg_st (go_aload_n 0 d_X6_readLinks_28 rfl rfl rfl) ?_
          refine gg_st (go_bipush d_X6_readLinks_29 cb_61 rfl) ?_
          refine gv_V (k_X6_pass l w (61 : Int32) x3.2) cv_X6_119 sC_1 (Nat.le_of_ble_eq_true rfl) rfl rfl (Nat.le_of_ble_eq_true rfl) d_X6_readLinks_31 rfl (fun s6 => ?_)
          refine gg_st (go_fg [some (.ref (1)), none, some (.int v2), some (.int x3.1)] ⟨rfl, ⟨rfl, ⟨rfl, trivial⟩⟩⟩) ?_
          exact gg_end rfl
        · refine gg_st (go_fg [some (.ref (1)), none, some (.int v2), some (.int x3.1)] ⟨rfl, ⟨rfl, ⟨rfl, trivial⟩⟩⟩) ?_
          exact gg_end rfl
      · refine gg_st (go_aload_n 0 d_X6_readLinks_34 rfl rfl rfl) ?_
        refine gg_st (go_getI (j := 4) cf6 sC_1 rfl (by decide) fl_X6_47 d_X6_readLinks_35 rfl) ?_
        refine gg_bind 54 (fun (t7 : St) => [some (.ref (1)), none, some (.int v2), none]) (fun (t7 : St) => []) (fun (t7 : St) => t7) ?_ (fun t7 => ?_)
        · refine gg_br (br_if_ne (tgt := 54) (pc' := 41) d_X6_readLinks_38 (by decide) rfl) (fun h8 => ?_) (fun h8 => ?_)
          · refine gg_st (go_aload_n 0 d_X6_readLinks_41 rfl rfl rfl) ?_
            refine gg_st (go_getR (j := 0) cf6 sC_1 rfl (by decide) fl_X6_12 d_X6_readLinks_42 rfl) ?_
            refine gg_st (go_iload_n 3 d_X6_readLinks_45 rfl rfl rfl) ?_
            refine gg_st (go_aload_n 0 d_X6_readLinks_46 rfl rfl rfl) ?_
            refine gg_st (go_iconst d_X6_readLinks_47 ci_0 rfl) ?_
            refine gv_IS (k_X6_readTerm l w F 16 (0 : Int32) t4) cv_X6_173 sC_1 (Nat.le_of_ble_eq_true rfl) rfl rfl (Nat.le_of_ble_eq_true rfl) d_X6_readLinks_48 rfl (fun x9 => ?_)
            refine gv_V (k_X1_join l w x3.1 x9.1 x9.2) cv_X6_163 sC_2 (Nat.le_of_ble_eq_true rfl) rfl rfl (Nat.le_of_ble_eq_true rfl) d_X6_readLinks_51 rfl (fun s10 => ?_)
            refine gg_st (go_fg [some (.ref (1)), none, some (.int v2), none] ⟨rfl, ⟨rfl, trivial⟩⟩) ?_
            exact gg_end rfl
          · refine gg_st (go_fg [some (.ref (1)), none, some (.int v2), none] ⟨rfl, ⟨rfl, trivial⟩⟩) ?_
            exact gg_end rfl
        · refine gg_st (go_aload_n 0 d_X6_readLinks_54 rfl rfl rfl) ?_
          refine gg_st (go_getI (j := 4) cf6 sC_1 rfl (by decide) fl_X6_47 d_X6_readLinks_55 rfl) ?_
          refine gg_bind 78 (fun (t11 : Int32) => [some (.ref (1)), none, some (.int v2), none]) (fun (t11 : Int32) => [.int t11]) (fun (t11 : Int32) => t7) ?_ (fun t11 => ?_)
          · refine gg_two (c := ((t7.1 (1) 4) = 0) ∧ ((t7.1 (9) 7) = (44 : Int32))) (pA := 73) (pB := 77) (LL := [some (.ref (1)), none, some (.int v2), none]) (ss := []) ?_ ?_ (fun hA12 hB13 => ?_)
            · refine gg_st (go_iconst d_X6_readLinks_73 ci_1 rfl) ?_
              refine gg_st (go_goto (pc' := 78) d_X6_readLinks_74 (by decide)) ?_
              exact gg_end rfl
            · refine gg_st (go_iconst d_X6_readLinks_77 ci_0 rfl) ?_
              exact gg_end rfl
            refine gg_brs (br_if_ne (tgt := 77) (pc' := 61) d_X6_readLinks_58 (by decide) rfl) (fun h14 => ?_) (fun h14 => ?_)
            · refine gg_st (go_aload_n 0 d_X6_readLinks_61 rfl rfl rfl) ?_
              refine gg_st (go_getR (j := 5) cf6 sC_1 rfl (by decide) fl_X6_25 d_X6_readLinks_62 rfl) ?_
              refine gg_st (go_getI (j := 7) cf9 sC_9 rfl (by decide) fl_X6_53 d_X6_readLinks_65 rfl) ?_
              refine gg_st (go_bipush d_X6_readLinks_68 cb_44 rfl) ?_
              refine gg_brs (br_icmp_ne (tgt := 77) (pc' := 73) d_X6_readLinks_70 (by decide) rfl) (fun h15 => ?_) (fun h15 => ?_)
              · exact gg_eq (if_pos ⟨h14, h15⟩) hA12
              · exact gg_eq (if_neg (fun z => h15 z.2)) hB13
            · exact gg_eq (if_neg (fun z => h14 z.1)) hB13
          · refine gg_st (go_istore_n 1 d_X6_readLinks_78 rfl (by decide) (L' := [some (.ref (1)), some (.int t11), some (.int v2), none]) rfl rfl) ?_
            refine gg_st (go_iload_n 1 d_X6_readLinks_79 rfl rfl rfl) ?_
            refine gg_bind 90 (fun (t16 : St) => [some (.ref (1)), some (.int t11), some (.int v2), none]) (fun (t16 : St) => []) (fun (t16 : St) => t16) ?_ (fun t16 => ?_)
            · refine gg_br (br_if_eq (tgt := 90) (pc' := 83) d_X6_readLinks_80 (by decide) rfl) (fun h17 => ?_) (fun h17 => ?_)
              · exact gg_end rfl
              · refine gg_st (go_aload_n 0 d_X6_readLinks_83 rfl rfl rfl) ?_
                refine gg_st (go_getR (j := 5) cf6 sC_1 rfl (by decide) fl_X6_25 d_X6_readLinks_84 rfl) ?_
                refine gv_V (k_X9_advance l w  t7) cv_X6_88 sC_9 (Nat.le_of_ble_eq_true rfl) rfl rfl (Nat.le_of_ble_eq_true rfl) d_X6_readLinks_87 rfl (fun s18 => ?_)
                exact gg_end rfl
            · refine gg_st (go_iinc 2 d_X6_readLinks_90 rfl (v := v2 + (1 : Int32)) (by rw [ci_1]) (by decide) (L' := [some (.ref (1)), some (.int t11), some (.int (v2 + (1 : Int32))), none]) rfl rfl) ?_
              refine gg_st (go_goto (pc' := 4) d_X6_readLinks_93 (by decide)) ?_
              exact ih t11 (v2 + (1 : Int32)) t16
    · refine gg_st (go_fg [none, none, none, none] trivial) ?_
      exact gg_end rfl
    refine gg_brs (br_icmp_ge (tgt := 96) (pc' := 11) d_X6_readLinks_8 (by decide) rfl) (fun h21 => ?_) (fun h21 => ?_)
    · refine gg_st (go_iload_n 1 d_X6_readLinks_11 rfl rfl rfl) ?_
      refine gg_brs (br_if_eq (tgt := 96) (pc' := 15) d_X6_readLinks_12 (by decide) rfl) (fun h22 => ?_) (fun h22 => ?_)
      · exact gg_eq (if_neg (fun z => (fun z => z h22) z.2)) hB20
      · exact gg_eq (if_pos ⟨h21, h22⟩) hA19
    · exact gg_eq (if_neg (fun z => h21 z.1)) hB20
set_option maxRecDepth 20000 in
theorem k_X6_readLinks (l : Launch) (w : Wo) (F : Nat) (σ : St) : K l w shC m_X6_readLinks 86 [.ref (1)] σ (f_X6_readLinks F σ) (rV) := by
  refine k_of (L := [some (.ref (1)), none, none, none]) (plainFor_of_name (by decide +kernel)) 3 rfl (Nat.le_of_ble_eq_true rfl) ?_
  unfold f_X6_readLinks
  refine gg_st (go_iconst d_X6_readLinks_0 ci_1 rfl) ?_
  refine gg_st (go_istore_n 1 d_X6_readLinks_1 rfl (by decide) (L' := [some (.ref (1)), some (.int (1 : Int32)), none, none]) rfl rfl) ?_
  refine gg_st (go_iconst d_X6_readLinks_2 ci_0 rfl) ?_
  refine gg_st (go_istore_n 2 d_X6_readLinks_3 rfl (by decide) (L' := [some (.ref (1)), some (.int (1 : Int32)), some (.int (0 : Int32)), none]) rfl rfl) ?_
  refine gg_bind 96 (fun (t23 : St) => [none, none, none, none]) (fun (t23 : St) => []) (fun (t23 : St) => t23) (g_f_X6_readLinks_L4 l w F F (1 : Int32) (0 : Int32) σ) (fun t23 => ?_)
  exact gg_vret rfl d_X6_readLinks_96 rfl
def f_X6_readNet (F : Nat) (σ : St) : Option (St) :=
  if (σ.1 (1) 3) = 0 then (
    Option.bind (some (seti σ (1) 3 (1 : Int32))) fun s3 =>
    Option.bind (f_X9_advance s3) fun s4 =>
    Option.bind (f_X1_clear F s4) fun s5 =>
    Option.bind (some (seti s5 (1) 2 (0 : Int32))) fun s6 =>
    Option.bind (
      if (s6.1 (9) 7) = (59 : Int32) then (
        some s6)
      else (
        Option.bind (f_X6_readLinks F s6) fun s9 =>
        some s9)) fun t7 =>
    if (t7.1 (1) 4) = 0 then (
      Option.bind (f_X6_endNet F t7) fun s11 =>
      some s11)
    else (
      some t7))
  else (
    Option.bind (f_X6_refuse (4 : Int32) σ) fun s12 =>
    some s12)
set_option maxRecDepth 20000 in
theorem k_X6_readNet (l : Launch) (w : Wo) (F : Nat) (σ : St) : K l w shC m_X6_readNet 87 [.ref (1)] σ (f_X6_readNet F σ) (rV) := by
  refine k_of (L := [some (.ref (1))]) (plainFor_of_name (by decide +kernel)) 0 rfl (Nat.le_of_ble_eq_true rfl) ?_
  unfold f_X6_readNet
  refine gg_st (go_aload_n 0 d_X6_readNet_0 rfl rfl rfl) ?_
  refine gg_st (go_getI (j := 3) cf6 sC_1 rfl (by decide) fl_X6_43 d_X6_readNet_1 rfl) ?_
  refine gg_br (br_if_eq (tgt := 13) (pc' := 7) d_X6_readNet_4 (by decide) rfl) (fun h2 => ?_) (fun h2 => ?_)
  · refine gg_st (go_aload_n 0 d_X6_readNet_13 rfl rfl rfl) ?_
    refine gg_st (go_iconst d_X6_readNet_14 ci_1 rfl) ?_
    refine gg_st (go_putZ (Or.inr rfl) (j := 3) cf6 sC_1 rfl (by decide) rfl rfl fl_X6_43 d_X6_readNet_15 rfl) ?_
    refine gg_som (fun s3 => ?_)
    refine gg_st (go_aload_n 0 d_X6_readNet_18 rfl rfl rfl) ?_
    refine gg_st (go_getR (j := 5) cf6 sC_1 rfl (by decide) fl_X6_25 d_X6_readNet_19 rfl) ?_
    refine gv_V (k_X9_advance l w  s3) cv_X6_88 sC_9 (Nat.le_of_ble_eq_true rfl) rfl rfl (Nat.le_of_ble_eq_true rfl) d_X6_readNet_22 rfl (fun s4 => ?_)
    refine gg_st (go_aload_n 0 d_X6_readNet_25 rfl rfl rfl) ?_
    refine gg_st (go_getR (j := 0) cf6 sC_1 rfl (by decide) fl_X6_12 d_X6_readNet_26 rfl) ?_
    refine gv_V (k_X1_clear l w F  s4) cv_X6_136 sC_2 (Nat.le_of_ble_eq_true rfl) rfl rfl (Nat.le_of_ble_eq_true rfl) d_X6_readNet_29 rfl (fun s5 => ?_)
    refine gg_st (go_aload_n 0 d_X6_readNet_32 rfl rfl rfl) ?_
    refine gg_st (go_iconst d_X6_readNet_33 ci_0 rfl) ?_
    refine gg_st (go_putZ (Or.inl rfl) (j := 2) cf6 sC_1 rfl (by decide) rfl rfl fl_X6_137 d_X6_readNet_34 rfl) ?_
    refine gg_som (fun s6 => ?_)
    refine gg_st (go_aload_n 0 d_X6_readNet_37 rfl rfl rfl) ?_
    refine gg_st (go_getR (j := 5) cf6 sC_1 rfl (by decide) fl_X6_25 d_X6_readNet_38 rfl) ?_
    refine gg_st (go_getI (j := 7) cf9 sC_9 rfl (by decide) fl_X6_53 d_X6_readNet_41 rfl) ?_
    refine gg_st (go_bipush d_X6_readNet_44 cb_59 rfl) ?_
    refine gg_bind 53 (fun (t7 : St) => [some (.ref (1))]) (fun (t7 : St) => []) (fun (t7 : St) => t7) ?_ (fun t7 => ?_)
    · refine gg_br (br_icmp_eq (tgt := 53) (pc' := 49) d_X6_readNet_46 (by decide) rfl) (fun h8 => ?_) (fun h8 => ?_)
      · exact gg_end rfl
      · refine gg_st (go_aload_n 0 d_X6_readNet_49 rfl rfl rfl) ?_
        refine gv_V (k_X6_readLinks l w F  s6) cv_X6_143 sC_1 (Nat.le_of_ble_eq_true rfl) rfl rfl (Nat.le_of_ble_eq_true rfl) d_X6_readNet_50 rfl (fun s9 => ?_)
        exact gg_end rfl
    · refine gg_st (go_aload_n 0 d_X6_readNet_53 rfl rfl rfl) ?_
      refine gg_st (go_getI (j := 4) cf6 sC_1 rfl (by decide) fl_X6_47 d_X6_readNet_54 rfl) ?_
      refine gg_br (br_if_ne (tgt := 64) (pc' := 60) d_X6_readNet_57 (by decide) rfl) (fun h10 => ?_) (fun h10 => ?_)
      · refine gg_st (go_aload_n 0 d_X6_readNet_60 rfl rfl rfl) ?_
        refine gv_V (k_X6_endNet l w F  t7) cv_X6_170 sC_1 (Nat.le_of_ble_eq_true rfl) rfl rfl (Nat.le_of_ble_eq_true rfl) d_X6_readNet_61 rfl (fun s11 => ?_)
        exact gg_vret rfl d_X6_readNet_64 rfl
      · exact gg_vret rfl d_X6_readNet_64 rfl
  · refine gg_st (go_aload_n 0 d_X6_readNet_7 rfl rfl rfl) ?_
    refine gg_st (go_iconst d_X6_readNet_8 ci_4 rfl) ?_
    refine gv_V (k_X6_refuse l w (4 : Int32) σ) cv_X6_101 sC_1 (Nat.le_of_ble_eq_true rfl) rfl rfl (Nat.le_of_ble_eq_true rfl) d_X6_readNet_9 rfl (fun s12 => ?_)
    exact gg_vret rfl d_X6_readNet_12 rfl
def f_X6_hasSlot (p1 : Int32) (σ : St) : Option (Int32) :=
  Option.bind (f_X6_slotKind p1 σ) fun x1 =>
  Option.bind (some (f_X6_slotPort p1)) fun x2 =>
  Option.bind (f_X3_hasPort (15) x1 x2 σ) fun x3 =>
  if x3 = 0 ∨ x3 = 1 then some x3 else none
set_option maxRecDepth 20000 in
theorem k_X6_hasSlot (l : Launch) (w : Wo) (p1 : Int32) (σ : St) : K l w shC m_X6_hasSlot 3 [.ref (1), .int p1] σ (f_X6_hasSlot p1 σ) (rI σ) := by
  refine k_of (L := [some (.ref (1)), some (.int p1)]) (plainFor_of_name (by decide +kernel)) 0 rfl (Nat.le_of_ble_eq_true rfl) ?_
  unfold f_X6_hasSlot
  refine gg_st (go_aload_n 0 d_X6_hasSlot_0 rfl rfl rfl) ?_
  refine gg_st (go_getR (j := 6) cf6 sC_1 rfl (by decide) fl_X6_32 d_X6_hasSlot_1 rfl) ?_
  refine gg_st (go_getR (j := 0) cf0 sC_14 rfl (by decide) fl_X6_91 d_X6_hasSlot_4 rfl) ?_
  refine gg_st (go_aload_n 0 d_X6_hasSlot_7 rfl rfl rfl) ?_
  refine gg_st (go_iload_n 1 d_X6_hasSlot_8 rfl rfl rfl) ?_
  refine gv_I (k_X6_slotKind l w p1 σ) cv_X6_250 sC_1 (Nat.le_of_ble_eq_true rfl) rfl rfl (Nat.le_of_ble_eq_true rfl) d_X6_hasSlot_9 rfl (fun x1 => ?_)
  refine gg_st (go_iload_n 1 d_X6_hasSlot_12 rfl rfl rfl) ?_
  refine gs_I (k_X6_slotPort l w p1 σ) cs_X6_253 (Nat.le_of_ble_eq_true rfl) rfl rfl (Nat.le_of_ble_eq_true rfl) d_X6_hasSlot_13 rfl (fun x2 => ?_)
  refine gv_I (k_X3_hasPort l w (show 15 ∈ st15_65 by decide) x1 x2 σ) cv_X6_256 sC_15 (Nat.le_of_ble_eq_true rfl) rfl rfl (Nat.le_of_ble_eq_true rfl) d_X6_hasSlot_16 rfl (fun x3 => ?_)
  refine gg_gd (fun h4 => ?_)
  exact gg_zret h4 rfl d_X6_hasSlot_19 rfl
def f_X6_slotsFit_L2 (F : Nat) : Nat → Int32 → St → Option (Int32 × St)
  | 0, _, _ => none
  | n + 1, v1, g =>
    if v1 < (8 : Int32) then (
      Option.bind (f_X6_hasSlot v1 g) fun x3 =>
      Option.bind (some (fun (t4 : St) =>
        f_X6_slotsFit_L2 F n (v1 + (1 : Int32)) t4)) fun jp5 =>
      if x3 = 0 then (
        jp5 g)
      else (
        Option.bind (f_X6_slotSort v1 g) fun x7 =>
        Option.bind (some (f_X1_outerPoint v1)) fun x8 =>
        Option.bind (f_X1_farCode F x8 g) fun x9 =>
        Option.bind (f_X6_fits x7 x9.1 x9.2) fun x10 =>
        if x10 = 0 then (
          some ((0 : Int32), x9.2))
        else (
          jp5 x9.2)))
    else (
      some ((1 : Int32), g))
def f_X6_slotsFit (F : Nat) (σ : St) : Option (Int32 × St) :=
  f_X6_slotsFit_L2 F F (0 : Int32) σ
set_option maxRecDepth 20000 in
theorem g_f_X6_slotsFit_L2 (l : Launch) (w : Wo) (F : Nat) : ∀ (n : Nat) (v1 : Int32) (g : St), GG l w shC m_X6_slotsFit 4 2 [some (.ref (1)), some (.int v1)] [] g (f_X6_slotsFit_L2 F n v1 g) (fun q => .inr ((rIS) q)) := by
  intro n
  induction n with
  | zero =>
    intro v1 g
    exact gg_none
  | succ n ih =>
    intro v1 g
    rw [f_X6_slotsFit_L2]
    refine gg_st (go_iload_n 1 d_X6_slotsFit_2 rfl rfl rfl) ?_
    refine gg_st (go_bipush d_X6_slotsFit_3 cb_8 rfl) ?_
    refine gg_br (br_icmp_ge (tgt := 47) (pc' := 8) d_X6_slotsFit_5 (by decide) rfl) (fun h2 => ?_) (fun h2 => ?_)
    · refine gg_st (go_aload_n 0 d_X6_slotsFit_8 rfl rfl rfl) ?_
      refine gg_st (go_iload_n 1 d_X6_slotsFit_9 rfl rfl rfl) ?_
      refine gv_I (k_X6_hasSlot l w v1 g) cv_X6_234 sC_1 (Nat.le_of_ble_eq_true rfl) rfl rfl (Nat.le_of_ble_eq_true rfl) d_X6_slotsFit_10 rfl (fun x3 => ?_)
      refine gg_jp 41 (fun (t4 : St) => [some (.ref (1)), some (.int v1)]) (fun (t4 : St) => []) (fun (t4 : St) => t4) (fun t4 => ?_) (fun jp5 hjp5 => ?_)
      · refine gg_st (go_iinc 1 d_X6_slotsFit_41 rfl (v := v1 + (1 : Int32)) (by rw [ci_1]) (by decide) (L' := [some (.ref (1)), some (.int (v1 + (1 : Int32)))]) rfl rfl) ?_
        refine gg_st (go_goto (pc' := 2) d_X6_slotsFit_44 (by decide)) ?_
        exact ih (v1 + (1 : Int32)) t4
      refine gg_br (br_if_eq (tgt := 41) (pc' := 16) d_X6_slotsFit_13 (by decide) rfl) (fun h6 => ?_) (fun h6 => ?_)
      · exact hjp5 g
      · refine gg_st (go_aload_n 0 d_X6_slotsFit_16 rfl rfl rfl) ?_
        refine gg_st (go_aload_n 0 d_X6_slotsFit_17 rfl rfl rfl) ?_
        refine gg_st (go_iload_n 1 d_X6_slotsFit_18 rfl rfl rfl) ?_
        refine gv_I (k_X6_slotSort l w v1 g) cv_X6_238 sC_1 (Nat.le_of_ble_eq_true rfl) rfl rfl (Nat.le_of_ble_eq_true rfl) d_X6_slotsFit_19 rfl (fun x7 => ?_)
        refine gg_st (go_aload_n 0 d_X6_slotsFit_22 rfl rfl rfl) ?_
        refine gg_st (go_getR (j := 0) cf6 sC_1 rfl (by decide) fl_X6_12 d_X6_slotsFit_23 rfl) ?_
        refine gg_st (go_iload_n 1 d_X6_slotsFit_26 rfl rfl rfl) ?_
        refine gs_I (k_X1_outerPoint l w v1 g) cs_X6_160 (Nat.le_of_ble_eq_true rfl) rfl rfl (Nat.le_of_ble_eq_true rfl) d_X6_slotsFit_27 rfl (fun x8 => ?_)
        refine gv_IS (k_X1_farCode l w F x8 g) cv_X6_228 sC_2 (Nat.le_of_ble_eq_true rfl) rfl rfl (Nat.le_of_ble_eq_true rfl) d_X6_slotsFit_30 rfl (fun x9 => ?_)
        refine gv_I (k_X6_fits l w x7 x9.1 x9.2) cv_X6_231 sC_1 (Nat.le_of_ble_eq_true rfl) rfl rfl (Nat.le_of_ble_eq_true rfl) d_X6_slotsFit_33 rfl (fun x10 => ?_)
        refine gg_br (br_if_ne (tgt := 41) (pc' := 39) d_X6_slotsFit_36 (by decide) rfl) (fun h11 => ?_) (fun h11 => ?_)
        · refine gg_st (go_iconst d_X6_slotsFit_39 ci_0 rfl) ?_
          exact gg_zret (Or.inl rfl) rfl d_X6_slotsFit_40 rfl
        · exact hjp5 x9.2
    · refine gg_st (go_iconst d_X6_slotsFit_47 ci_1 rfl) ?_
      exact gg_zret (Or.inr rfl) rfl d_X6_slotsFit_48 rfl
set_option maxRecDepth 20000 in
theorem k_X6_slotsFit (l : Launch) (w : Wo) (F : Nat) (σ : St) : K l w shC m_X6_slotsFit 4 [.ref (1)] σ (f_X6_slotsFit F σ) (rIS) := by
  refine k_of (L := [some (.ref (1)), none]) (plainFor_of_name (by decide +kernel)) 1 rfl (Nat.le_of_ble_eq_true rfl) ?_
  unfold f_X6_slotsFit
  refine gg_st (go_iconst d_X6_slotsFit_0 ci_0 rfl) ?_
  refine gg_st (go_istore_n 1 d_X6_slotsFit_1 rfl (by decide) (L' := [some (.ref (1)), some (.int (0 : Int32))]) rfl rfl) ?_
  refine g_f_X6_slotsFit_L2 l w F  F (0 : Int32) σ
def f_X8_has (a : Nat) (p1 : Int32) (σ : St) : Int32 :=
  if (0 ≤ p1) ∧ ((p1 < (σ.1 a 7)) ∧ (p1 < (60 : Int32))) then (
    (1 : Int32))
  else (
    (0 : Int32))
set_option maxRecDepth 20000 in
theorem k_X8_has (l : Launch) (w : Wo) {a : Nat} (ha : a ∈ st19_69) (p1 : Int32) (σ : St) : K l w shC m_X8_has 1 [.ref a, .int p1] σ (some (f_X8_has a p1 σ)) (rI σ) := by
  refine k_of (L := [some (.ref a), some (.int p1)]) (plainFor_of_name (by decide +kernel)) 0 rfl (Nat.le_of_ble_eq_true rfl) ?_
  unfold f_X8_has
  refine gg_st (go_iload_n 1 d_X8_has_0 rfl rfl rfl) ?_
  refine gg_twov (c := (0 ≤ p1) ∧ ((p1 < (σ.1 a 7)) ∧ (p1 < (60 : Int32)))) (pA := 18) (pB := 22) (LL := [some (.ref a), some (.int p1)]) (ss := []) ?_ ?_ (fun hA1 hB2 => ?_)
  · refine gg_st (go_iconst d_X8_has_18 ci_1 rfl) ?_
    refine gg_st (go_goto (pc' := 23) d_X8_has_19 (by decide)) ?_
    exact gg_zret (Or.inr rfl) rfl d_X8_has_23 rfl
  · refine gg_st (go_iconst d_X8_has_22 ci_0 rfl) ?_
    exact gg_zret (Or.inl rfl) rfl d_X8_has_23 rfl
  refine gg_brs (br_if_lt (tgt := 22) (pc' := 4) d_X8_has_1 (by decide) rfl) (fun h3 => ?_) (fun h3 => ?_)
  · refine gg_st (go_iload_n 1 d_X8_has_4 rfl rfl rfl) ?_
    refine gg_st (go_aload_n 0 d_X8_has_5 rfl rfl rfl) ?_
    refine gg_st (go_getI (j := 7) cf8 (sC_st19_69_0 ha) rfl (by decide) fl_X8_39 d_X8_has_6 rfl) ?_
    refine gg_brs (br_icmp_ge (tgt := 22) (pc' := 12) d_X8_has_9 (by decide) rfl) (fun h4 => ?_) (fun h4 => ?_)
    · refine gg_st (go_iload_n 1 d_X8_has_12 rfl rfl rfl) ?_
      refine gg_st (go_bipush d_X8_has_13 cb_60 rfl) ?_
      refine gg_brs (br_icmp_ge (tgt := 22) (pc' := 18) d_X8_has_15 (by decide) rfl) (fun h5 => ?_) (fun h5 => ?_)
      · exact gg_eq (congrArg some (if_pos ⟨h3, ⟨h4, h5⟩⟩)) hA1
      · exact gg_eq (congrArg some (if_neg (fun z => (fun z => h5 z.2) z.2))) hB2
    · exact gg_eq (congrArg some (if_neg (fun z => (fun z => h4 z.1) z.2))) hB2
  · exact gg_eq (congrArg some (if_neg (fun z => h3 z.1))) hB2
def f_X8_addAgent (p1 : Int32) (p2 : Int32) (σ : St) : Option (St) :=
  Option.bind (some (f_X8_has (19) p1 σ)) fun x1 =>
  if x1 = 0 then (
    some σ)
  else (
    if inb p1 60 then (
      if (σ.1 (22) (ix p1)) < (12 : Int32) then (
        if inb p1 60 then (
          if inb ((p1 * (12 : Int32)) + (σ.1 (22) (ix p1))) 720 then (
            Option.bind (some (seti σ (24) (ix ((p1 * (12 : Int32)) + (σ.1 (22) (ix p1)))) p2)) fun s9 =>
            if inb p1 60 then (
              if inb p1 60 then (
                Option.bind (some (seti s9 (22) (ix p1) ((s9.1 (22) (ix p1)) + (1 : Int32)))) fun s12 =>
                some s12)
              else none)
            else none)
          else none)
        else none)
      else (
        some σ))
    else none)
set_option maxRecDepth 20000 in
theorem k_X8_addAgent (l : Launch) (w : Wo) (p1 : Int32) (p2 : Int32) (σ : St) : K l w shC m_X8_addAgent 2 [.ref (19), .int p1, .int p2] σ (f_X8_addAgent p1 p2 σ) (rV) := by
  refine k_of (L := [some (.ref (19)), some (.int p1), some (.int p2)]) (plainFor_of_name (by decide +kernel)) 0 rfl (Nat.le_of_ble_eq_true rfl) ?_
  unfold f_X8_addAgent
  refine gg_st (go_aload_n 0 d_X8_addAgent_0 rfl rfl rfl) ?_
  refine gg_st (go_iload_n 1 d_X8_addAgent_1 rfl rfl rfl) ?_
  refine gv_I (k_X8_has l w (show 19 ∈ st19_69 by decide) p1 σ) cv_X8_51 sC_19 (Nat.le_of_ble_eq_true rfl) rfl rfl (Nat.le_of_ble_eq_true rfl) d_X8_addAgent_2 rfl (fun x1 => ?_)
  refine gg_br (br_if_eq (tgt := 46) (pc' := 8) d_X8_addAgent_5 (by decide) rfl) (fun h3 => ?_) (fun h3 => ?_)
  · exact gg_vret rfl d_X8_addAgent_46 rfl
  · refine gg_st (go_aload_n 0 d_X8_addAgent_8 rfl rfl rfl) ?_
    refine gg_st (go_getR (j := 2) cf8 sC_19 rfl (by decide) fl_X8_18 d_X8_addAgent_9 rfl) ?_
    refine gg_st (go_iload_n 1 d_X8_addAgent_12 rfl rfl rfl) ?_
    refine gg_gd (fun h4 => ?_)
    refine gg_st (go_iald sC_22 h4 d_X8_addAgent_13 rfl) ?_
    refine gg_st (go_bipush d_X8_addAgent_14 cb_12 rfl) ?_
    refine gg_br (br_icmp_ge (tgt := 46) (pc' := 19) d_X8_addAgent_16 (by decide) rfl) (fun h6 => ?_) (fun h6 => ?_)
    · refine gg_st (go_aload_n 0 d_X8_addAgent_19 rfl rfl rfl) ?_
      refine gg_st (go_getR (j := 4) cf8 sC_19 rfl (by decide) fl_X8_24 d_X8_addAgent_20 rfl) ?_
      refine gg_st (go_iload_n 1 d_X8_addAgent_23 rfl rfl rfl) ?_
      refine gg_st (go_bipush d_X8_addAgent_24 cb_12 rfl) ?_
      refine gg_st (go_imul d_X8_addAgent_26 rfl) ?_
      refine gg_st (go_aload_n 0 d_X8_addAgent_27 rfl rfl rfl) ?_
      refine gg_st (go_getR (j := 2) cf8 sC_19 rfl (by decide) fl_X8_18 d_X8_addAgent_28 rfl) ?_
      refine gg_st (go_iload_n 1 d_X8_addAgent_31 rfl rfl rfl) ?_
      refine gg_gd (fun h7 => ?_)
      refine gg_st (go_iald sC_22 h7 d_X8_addAgent_32 rfl) ?_
      refine gg_st (go_iadd d_X8_addAgent_33 rfl) ?_
      refine gg_st (go_iload_n 2 d_X8_addAgent_34 rfl rfl rfl) ?_
      refine gg_gd (fun h8 => ?_)
      refine gg_st (go_iast sC_24 h8 d_X8_addAgent_35 rfl) ?_
      refine gg_som (fun s9 => ?_)
      refine gg_st (go_aload_n 0 d_X8_addAgent_36 rfl rfl rfl) ?_
      refine gg_st (go_getR (j := 2) cf8 sC_19 rfl (by decide) fl_X8_18 d_X8_addAgent_37 rfl) ?_
      refine gg_st (go_iload_n 1 d_X8_addAgent_40 rfl rfl rfl) ?_
      refine gg_st (go_dup2 d_X8_addAgent_41 rfl rfl rfl) ?_
      refine gg_gd (fun h10 => ?_)
      refine gg_st (go_iald sC_22 h10 d_X8_addAgent_42 rfl) ?_
      refine gg_st (go_iconst d_X8_addAgent_43 ci_1 rfl) ?_
      refine gg_st (go_iadd d_X8_addAgent_44 rfl) ?_
      refine gg_gd (fun h11 => ?_)
      refine gg_st (go_iast sC_22 h11 d_X8_addAgent_45 rfl) ?_
      refine gg_som (fun s12 => ?_)
      exact gg_vret rfl d_X8_addAgent_46 rfl
    · exact gg_vret rfl d_X8_addAgent_46 rfl
def f_X8_setRings (p1 : Int32) (p2 : Int32) (σ : St) : Option (St) :=
  Option.bind (some (f_X8_has (19) p1 σ)) fun x1 =>
  if x1 = 0 then (
    some σ)
  else (
    if inb p1 60 then (
      Option.bind (some (seti σ (23) (ix p1) p2)) fun s6 =>
      some s6)
    else none)
set_option maxRecDepth 20000 in
theorem k_X8_setRings (l : Launch) (w : Wo) (p1 : Int32) (p2 : Int32) (σ : St) : K l w shC m_X8_setRings 2 [.ref (19), .int p1, .int p2] σ (f_X8_setRings p1 p2 σ) (rV) := by
  refine k_of (L := [some (.ref (19)), some (.int p1), some (.int p2)]) (plainFor_of_name (by decide +kernel)) 0 rfl (Nat.le_of_ble_eq_true rfl) ?_
  unfold f_X8_setRings
  refine gg_st (go_aload_n 0 d_X8_setRings_0 rfl rfl rfl) ?_
  refine gg_st (go_iload_n 1 d_X8_setRings_1 rfl rfl rfl) ?_
  refine gv_I (k_X8_has l w (show 19 ∈ st19_69 by decide) p1 σ) cv_X8_51 sC_19 (Nat.le_of_ble_eq_true rfl) rfl rfl (Nat.le_of_ble_eq_true rfl) d_X8_setRings_2 rfl (fun x1 => ?_)
  refine gg_br (br_if_eq (tgt := 15) (pc' := 8) d_X8_setRings_5 (by decide) rfl) (fun h4 => ?_) (fun h4 => ?_)
  · exact gg_vret rfl d_X8_setRings_15 rfl
  · refine gg_st (go_aload_n 0 d_X8_setRings_8 rfl rfl rfl) ?_
    refine gg_st (go_getR (j := 3) cf8 sC_19 rfl (by decide) fl_X8_21 d_X8_setRings_9 rfl) ?_
    refine gg_st (go_iload_n 1 d_X8_setRings_12 rfl rfl rfl) ?_
    refine gg_st (go_iload_n 2 d_X8_setRings_13 rfl rfl rfl) ?_
    refine gg_gd (fun h5 => ?_)
    refine gg_st (go_iast sC_23 h5 d_X8_setRings_14 rfl) ?_
    refine gg_som (fun s6 => ?_)
    exact gg_vret rfl d_X8_setRings_15 rfl
def f_X8_setWire (p1 : Int32) (p2 : Int32) (p3 : Int32) (σ : St) : Option (St) :=
  Option.bind (some (f_X8_has (19) p1 σ)) fun x1 =>
  if (x1 = 0) ∨ ((f_X11_isInside p2 (96 : Int32)) = 0) then (
    Option.bind (some (f_X8_has (19) p1 σ)) fun x4 =>
    if (x4 = 0) ∨ ((f_X11_isInside (f_X11_endOf p2) (8 : Int32)) = 0) then (
      some σ)
    else (
      Option.bind (some (f_X11_endOf p2)) fun x7 =>
      if inb ((p1 * (8 : Int32)) + x7) 480 then (
        Option.bind (some (seti σ (26) (ix ((p1 * (8 : Int32)) + x7)) p3)) fun s9 =>
        some s9)
      else none))
  else (
    if inb ((p1 * (96 : Int32)) + p2) 5760 then (
      Option.bind (some (seti σ (25) (ix ((p1 * (96 : Int32)) + p2)) p3)) fun s15 =>
      some s15)
    else none)
set_option maxRecDepth 20000 in
theorem k_X8_setWire (l : Launch) (w : Wo) (p1 : Int32) (p2 : Int32) (p3 : Int32) (σ : St) : K l w shC m_X8_setWire 2 [.ref (19), .int p1, .int p2, .int p3] σ (f_X8_setWire p1 p2 p3 σ) (rV) := by
  refine k_of (L := [some (.ref (19)), some (.int p1), some (.int p2), some (.int p3)]) (plainFor_of_name (by decide +kernel)) 0 rfl (Nat.le_of_ble_eq_true rfl) ?_
  unfold f_X8_setWire
  refine gg_st (go_aload_n 0 d_X8_setWire_0 rfl rfl rfl) ?_
  refine gg_st (go_iload_n 1 d_X8_setWire_1 rfl rfl rfl) ?_
  refine gv_I (k_X8_has l w (show 19 ∈ st19_69 by decide) p1 σ) cv_X8_51 sC_19 (Nat.le_of_ble_eq_true rfl) rfl rfl (Nat.le_of_ble_eq_true rfl) d_X8_setWire_2 rfl (fun x1 => ?_)
  refine gg_two (c := (x1 = 0) ∨ ((f_X11_isInside p2 (96 : Int32)) = 0)) (pA := 32) (pB := 17) (LL := [some (.ref (19)), some (.int p1), some (.int p2), some (.int p3)]) (ss := []) ?_ ?_ (fun hA16 hB17 => ?_)
  · refine gg_st (go_aload_n 0 d_X8_setWire_32 rfl rfl rfl) ?_
    refine gg_st (go_iload_n 1 d_X8_setWire_33 rfl rfl rfl) ?_
    refine gv_I (k_X8_has l w (show 19 ∈ st19_69 by decide) p1 σ) cv_X8_51 sC_19 (Nat.le_of_ble_eq_true rfl) rfl rfl (Nat.le_of_ble_eq_true rfl) d_X8_setWire_34 rfl (fun x4 => ?_)
    refine gg_two (c := (x4 = 0) ∨ ((f_X11_isInside (f_X11_endOf p2) (8 : Int32)) = 0)) (pA := 67) (pB := 52) (LL := [some (.ref (19)), some (.int p1), some (.int p2), some (.int p3)]) (ss := []) ?_ ?_ (fun hA10 hB11 => ?_)
    · exact gg_vret rfl d_X8_setWire_67 rfl
    · refine gg_st (go_aload_n 0 d_X8_setWire_52 rfl rfl rfl) ?_
      refine gg_st (go_getR (j := 6) cf8 sC_19 rfl (by decide) fl_X8_30 d_X8_setWire_53 rfl) ?_
      refine gg_st (go_iload_n 1 d_X8_setWire_56 rfl rfl rfl) ?_
      refine gg_st (go_bipush d_X8_setWire_57 cb_8 rfl) ?_
      refine gg_st (go_imul d_X8_setWire_59 rfl) ?_
      refine gg_st (go_iload_n 2 d_X8_setWire_60 rfl rfl rfl) ?_
      refine gs_I (k_X11_endOf l w p2 σ) cs_X8_55 (Nat.le_of_ble_eq_true rfl) rfl rfl (Nat.le_of_ble_eq_true rfl) d_X8_setWire_61 rfl (fun x7 => ?_)
      refine gg_st (go_iadd d_X8_setWire_64 rfl) ?_
      refine gg_st (go_iload_n 3 d_X8_setWire_65 rfl rfl rfl) ?_
      refine gg_gd (fun h8 => ?_)
      refine gg_st (go_iast sC_26 h8 d_X8_setWire_66 rfl) ?_
      refine gg_som (fun s9 => ?_)
      exact gg_vret rfl d_X8_setWire_67 rfl
    refine gg_brs (br_if_eq (tgt := 67) (pc' := 40) d_X8_setWire_37 (by decide) rfl) (fun h12 => ?_) (fun h12 => ?_)
    · exact gg_eq (if_pos (Or.inl h12)) hA10
    · refine gg_st (go_iload_n 2 d_X8_setWire_40 rfl rfl rfl) ?_
      refine gg_st (go_sI (k_X11_endOf l w p2 σ) cs_X8_55 (Nat.le_of_ble_eq_true rfl) rfl rfl (Nat.le_of_ble_eq_true rfl) d_X8_setWire_41 rfl) ?_
      refine gg_st (go_bipush d_X8_setWire_44 cb_8 rfl) ?_
      refine gg_st (go_sI (k_X11_isInside l w (f_X11_endOf p2) (8 : Int32) σ) cs_X8_43 (Nat.le_of_ble_eq_true rfl) rfl rfl (Nat.le_of_ble_eq_true rfl) d_X8_setWire_46 rfl) ?_
      refine gg_brs (br_if_eq (tgt := 67) (pc' := 52) d_X8_setWire_49 (by decide) rfl) (fun h13 => ?_) (fun h13 => ?_)
      · exact gg_eq (if_pos (Or.inr h13)) hA10
      · exact gg_eq (if_neg (fun z => z.elim h12 h13)) hB11
  · refine gg_st (go_aload_n 0 d_X8_setWire_17 rfl rfl rfl) ?_
    refine gg_st (go_getR (j := 5) cf8 sC_19 rfl (by decide) fl_X8_27 d_X8_setWire_18 rfl) ?_
    refine gg_st (go_iload_n 1 d_X8_setWire_21 rfl rfl rfl) ?_
    refine gg_st (go_bipush d_X8_setWire_22 cb_96 rfl) ?_
    refine gg_st (go_imul d_X8_setWire_24 rfl) ?_
    refine gg_st (go_iload_n 2 d_X8_setWire_25 rfl rfl rfl) ?_
    refine gg_st (go_iadd d_X8_setWire_26 rfl) ?_
    refine gg_st (go_iload_n 3 d_X8_setWire_27 rfl rfl rfl) ?_
    refine gg_gd (fun h14 => ?_)
    refine gg_st (go_iast sC_25 h14 d_X8_setWire_28 rfl) ?_
    refine gg_som (fun s15 => ?_)
    refine gg_st (go_goto (pc' := 67) d_X8_setWire_29 (by decide)) ?_
    exact gg_vret rfl d_X8_setWire_67 rfl
  refine gg_brs (br_if_eq (tgt := 32) (pc' := 8) d_X8_setWire_5 (by decide) rfl) (fun h18 => ?_) (fun h18 => ?_)
  · exact gg_eq (if_pos (Or.inl h18)) hA16
  · refine gg_st (go_iload_n 2 d_X8_setWire_8 rfl rfl rfl) ?_
    refine gg_st (go_bipush d_X8_setWire_9 cb_96 rfl) ?_
    refine gg_st (go_sI (k_X11_isInside l w p2 (96 : Int32) σ) cs_X8_43 (Nat.le_of_ble_eq_true rfl) rfl rfl (Nat.le_of_ble_eq_true rfl) d_X8_setWire_11 rfl) ?_
    refine gg_brs (br_if_eq (tgt := 32) (pc' := 17) d_X8_setWire_14 (by decide) rfl) (fun h19 => ?_) (fun h19 => ?_)
    · exact gg_eq (if_pos (Or.inr h19)) hA16
    · exact gg_eq (if_neg (fun z => z.elim h18 h19)) hB17
def f_X6_storeRule_L54 (F : Nat) (c1 : Int32) (c2 : Int32) (c3 : Int32) : Nat → Int32 → St → Option (St)
  | 0, _, _ => none
  | n + 1, v7, g =>
    if v7 < c3 then (
      Option.bind (some (f_X11_portCode c2 v7)) fun x9 =>
      Option.bind (some (f_X11_portCode c2 v7)) fun x10 =>
      Option.bind (f_X1_farCode F x10 g) fun x11 =>
      Option.bind (f_X8_setWire c1 x9 x11.1 x11.2) fun s12 =>
      f_X6_storeRule_L54 F c1 c2 c3 n (v7 + (1 : Int32)) s12)
    else (
      some g)
def f_X6_storeRule_L2 (F : Nat) (c1 : Int32) : Nat → Int32 → St → Option (St)
  | 0, _, _ => none
  | n + 1, v1, g =>
    if v1 < (g.1 (2) 5) then (
      Option.bind (f_X1_kindOf v1 g) fun x3 =>
      Option.bind (f_X8_addAgent c1 x3 g) fun s4 =>
      Option.bind (f_X1_kindOf v1 s4) fun x5 =>
      Option.bind (f_X3_portsOf (15) x5 s4) fun x6 =>
      Option.bind (f_X6_storeRule_L54 F c1 v1 x6 F (0 : Int32) s4) fun t13 =>
      f_X6_storeRule_L2 F c1 n (v1 + (1 : Int32)) t13)
    else (
      some g)
def f_X6_storeRule_L104 (F : Nat) (c1 : Int32) : Nat → Int32 → St → Option (St)
  | 0, _, _ => none
  | n + 1, v15, g =>
    if v15 < (8 : Int32) then (
      Option.bind (f_X6_hasSlot v15 g) fun x17 =>
      Option.bind (
        if x17 = 0 then (
          some g)
        else (
          Option.bind (some (f_X11_endCode v15)) fun x20 =>
          Option.bind (some (f_X1_outerPoint v15)) fun x21 =>
          Option.bind (f_X1_farCode F x21 g) fun x22 =>
          Option.bind (f_X8_setWire c1 x20 x22.1 x22.2) fun s23 =>
          some s23)) fun t18 =>
      f_X6_storeRule_L104 F c1 n (v15 + (1 : Int32)) t18)
    else (
      some g)
def f_X6_storeRule (F : Nat) (p1 : Int32) (σ : St) : Option (St) :=
  Option.bind (f_X6_storeRule_L2 F p1 F (0 : Int32) σ) fun t14 =>
  Option.bind (f_X6_storeRule_L104 F p1 F (0 : Int32) t14) fun t24 =>
  Option.bind (f_X1_countRings F t24) fun x25 =>
  Option.bind (f_X8_setRings p1 x25.1 x25.2) fun s26 =>
  some s26
set_option maxRecDepth 20000 in
theorem g_f_X6_storeRule_L54 (l : Launch) (w : Wo) (F : Nat) (c1 : Int32) (c2 : Int32) (c3 : Int32) : ∀ (n : Nat) (v7 : Int32) (g : St), GG l w shC m_X6_storeRule 4 54 [some (.ref (1)), some (.int c1), some (.int c2), some (.int c3), some (.int v7)] [] g (f_X6_storeRule_L54 F c1 c2 c3 n v7 g) (fun (t : St) => .inl (96, [some (.ref (1)), some (.int c1), some (.int c2), none, none], [], t)) := by
  intro n
  induction n with
  | zero =>
    intro v7 g
    exact gg_none
  | succ n ih =>
    intro v7 g
    rw [f_X6_storeRule_L54]
    refine gg_st (go_iload 4 d_X6_storeRule_54 rfl rfl) ?_
    refine gg_st (go_iload_n 3 d_X6_storeRule_56 rfl rfl rfl) ?_
    refine gg_br (br_icmp_ge (tgt := 96) (pc' := 60) d_X6_storeRule_57 (by decide) rfl) (fun h8 => ?_) (fun h8 => ?_)
    · refine gg_st (go_aload_n 0 d_X6_storeRule_60 rfl rfl rfl) ?_
      refine gg_st (go_getR (j := 6) cf6 sC_1 rfl (by decide) fl_X6_32 d_X6_storeRule_61 rfl) ?_
      refine gg_st (go_getR (j := 1) cf0 sC_14 rfl (by decide) fl_X6_129 d_X6_storeRule_64 rfl) ?_
      refine gg_st (go_iload_n 1 d_X6_storeRule_67 rfl rfl rfl) ?_
      refine gg_st (go_iload_n 2 d_X6_storeRule_68 rfl rfl rfl) ?_
      refine gg_st (go_iload 4 d_X6_storeRule_69 rfl rfl) ?_
      refine gs_I (k_X11_portCode l w c2 v7 g) cs_X6_186 (Nat.le_of_ble_eq_true rfl) rfl rfl (Nat.le_of_ble_eq_true rfl) d_X6_storeRule_71 rfl (fun x9 => ?_)
      refine gg_st (go_aload_n 0 d_X6_storeRule_74 rfl rfl rfl) ?_
      refine gg_st (go_getR (j := 0) cf6 sC_1 rfl (by decide) fl_X6_12 d_X6_storeRule_75 rfl) ?_
      refine gg_st (go_iload_n 2 d_X6_storeRule_78 rfl rfl rfl) ?_
      refine gg_st (go_iload 4 d_X6_storeRule_79 rfl rfl) ?_
      refine gs_I (k_X11_portCode l w c2 v7 g) cs_X6_186 (Nat.le_of_ble_eq_true rfl) rfl rfl (Nat.le_of_ble_eq_true rfl) d_X6_storeRule_81 rfl (fun x10 => ?_)
      refine gv_IS (k_X1_farCode l w F x10 g) cv_X6_228 sC_2 (Nat.le_of_ble_eq_true rfl) rfl rfl (Nat.le_of_ble_eq_true rfl) d_X6_storeRule_84 rfl (fun x11 => ?_)
      refine gv_V (k_X8_setWire l w c1 x9 x11.1 x11.2) cv_X6_261 sC_19 (Nat.le_of_ble_eq_true rfl) rfl rfl (Nat.le_of_ble_eq_true rfl) d_X6_storeRule_87 rfl (fun s12 => ?_)
      refine gg_st (go_iinc 4 d_X6_storeRule_90 rfl (v := v7 + (1 : Int32)) (by rw [ci_1]) (by decide) (L' := [some (.ref (1)), some (.int c1), some (.int c2), some (.int c3), some (.int (v7 + (1 : Int32)))]) rfl rfl) ?_
      refine gg_st (go_goto (pc' := 54) d_X6_storeRule_93 (by decide)) ?_
      exact ih (v7 + (1 : Int32)) s12
    · refine gg_st (go_fg [some (.ref (1)), some (.int c1), some (.int c2), none, none] ⟨rfl, ⟨rfl, ⟨rfl, trivial⟩⟩⟩) ?_
      exact gg_end rfl
set_option maxRecDepth 20000 in
theorem g_f_X6_storeRule_L2 (l : Launch) (w : Wo) (F : Nat) (c1 : Int32) : ∀ (n : Nat) (v1 : Int32) (g : St), GG l w shC m_X6_storeRule 4 2 [some (.ref (1)), some (.int c1), some (.int v1), none, none] [] g (f_X6_storeRule_L2 F c1 n v1 g) (fun (t : St) => .inl (102, [some (.ref (1)), some (.int c1), none, none, none], [], t)) := by
  intro n
  induction n with
  | zero =>
    intro v1 g
    exact gg_none
  | succ n ih =>
    intro v1 g
    rw [f_X6_storeRule_L2]
    refine gg_st (go_iload_n 2 d_X6_storeRule_2 rfl rfl rfl) ?_
    refine gg_st (go_aload_n 0 d_X6_storeRule_3 rfl rfl rfl) ?_
    refine gg_st (go_getR (j := 0) cf6 sC_1 rfl (by decide) fl_X6_12 d_X6_storeRule_4 rfl) ?_
    refine gg_st (go_getI (j := 5) cf1 sC_2 rfl (by decide) fl_X6_176 d_X6_storeRule_7 rfl) ?_
    refine gg_br (br_icmp_ge (tgt := 102) (pc' := 13) d_X6_storeRule_10 (by decide) rfl) (fun h2 => ?_) (fun h2 => ?_)
    · refine gg_st (go_aload_n 0 d_X6_storeRule_13 rfl rfl rfl) ?_
      refine gg_st (go_getR (j := 6) cf6 sC_1 rfl (by decide) fl_X6_32 d_X6_storeRule_14 rfl) ?_
      refine gg_st (go_getR (j := 1) cf0 sC_14 rfl (by decide) fl_X6_129 d_X6_storeRule_17 rfl) ?_
      refine gg_st (go_iload_n 1 d_X6_storeRule_20 rfl rfl rfl) ?_
      refine gg_st (go_aload_n 0 d_X6_storeRule_21 rfl rfl rfl) ?_
      refine gg_st (go_getR (j := 0) cf6 sC_1 rfl (by decide) fl_X6_12 d_X6_storeRule_22 rfl) ?_
      refine gg_st (go_iload_n 2 d_X6_storeRule_25 rfl rfl rfl) ?_
      refine gv_I (k_X1_kindOf l w v1 g) cv_X6_222 sC_2 (Nat.le_of_ble_eq_true rfl) rfl rfl (Nat.le_of_ble_eq_true rfl) d_X6_storeRule_26 rfl (fun x3 => ?_)
      refine gv_V (k_X8_addAgent l w c1 x3 g) cv_X6_259 sC_19 (Nat.le_of_ble_eq_true rfl) rfl rfl (Nat.le_of_ble_eq_true rfl) d_X6_storeRule_29 rfl (fun s4 => ?_)
      refine gg_st (go_aload_n 0 d_X6_storeRule_32 rfl rfl rfl) ?_
      refine gg_st (go_getR (j := 6) cf6 sC_1 rfl (by decide) fl_X6_32 d_X6_storeRule_33 rfl) ?_
      refine gg_st (go_getR (j := 0) cf0 sC_14 rfl (by decide) fl_X6_91 d_X6_storeRule_36 rfl) ?_
      refine gg_st (go_aload_n 0 d_X6_storeRule_39 rfl rfl rfl) ?_
      refine gg_st (go_getR (j := 0) cf6 sC_1 rfl (by decide) fl_X6_12 d_X6_storeRule_40 rfl) ?_
      refine gg_st (go_iload_n 2 d_X6_storeRule_43 rfl rfl rfl) ?_
      refine gv_I (k_X1_kindOf l w v1 s4) cv_X6_222 sC_2 (Nat.le_of_ble_eq_true rfl) rfl rfl (Nat.le_of_ble_eq_true rfl) d_X6_storeRule_44 rfl (fun x5 => ?_)
      refine gv_I (k_X3_portsOf l w (show 15 ∈ st15_65 by decide) x5 s4) cv_X6_167 sC_15 (Nat.le_of_ble_eq_true rfl) rfl rfl (Nat.le_of_ble_eq_true rfl) d_X6_storeRule_47 rfl (fun x6 => ?_)
      refine gg_st (go_istore_n 3 d_X6_storeRule_50 rfl (by decide) (L' := [some (.ref (1)), some (.int c1), some (.int v1), some (.int x6), none]) rfl rfl) ?_
      refine gg_st (go_iconst d_X6_storeRule_51 ci_0 rfl) ?_
      refine gg_st (go_istore 4 d_X6_storeRule_52 (by decide) (L' := [some (.ref (1)), some (.int c1), some (.int v1), some (.int x6), some (.int (0 : Int32))]) rfl rfl) ?_
      refine gg_bind 96 (fun (t13 : St) => [some (.ref (1)), some (.int c1), some (.int v1), none, none]) (fun (t13 : St) => []) (fun (t13 : St) => t13) (g_f_X6_storeRule_L54 l w F c1 v1 x6 F (0 : Int32) s4) (fun t13 => ?_)
      refine gg_st (go_iinc 2 d_X6_storeRule_96 rfl (v := v1 + (1 : Int32)) (by rw [ci_1]) (by decide) (L' := [some (.ref (1)), some (.int c1), some (.int (v1 + (1 : Int32))), none, none]) rfl rfl) ?_
      refine gg_st (go_goto (pc' := 2) d_X6_storeRule_99 (by decide)) ?_
      exact ih (v1 + (1 : Int32)) t13
    · refine gg_st (go_fg [some (.ref (1)), some (.int c1), none, none, none] ⟨rfl, ⟨rfl, trivial⟩⟩) ?_
      exact gg_end rfl
set_option maxRecDepth 20000 in
theorem g_f_X6_storeRule_L104 (l : Launch) (w : Wo) (F : Nat) (c1 : Int32) : ∀ (n : Nat) (v15 : Int32) (g : St), GG l w shC m_X6_storeRule 4 104 [some (.ref (1)), some (.int c1), some (.int v15), none, none] [] g (f_X6_storeRule_L104 F c1 n v15 g) (fun (t : St) => .inl (150, [some (.ref (1)), some (.int c1), none, none, none], [], t)) := by
  intro n
  induction n with
  | zero =>
    intro v15 g
    exact gg_none
  | succ n ih =>
    intro v15 g
    rw [f_X6_storeRule_L104]
    refine gg_st (go_iload_n 2 d_X6_storeRule_104 rfl rfl rfl) ?_
    refine gg_st (go_bipush d_X6_storeRule_105 cb_8 rfl) ?_
    refine gg_br (br_icmp_ge (tgt := 150) (pc' := 110) d_X6_storeRule_107 (by decide) rfl) (fun h16 => ?_) (fun h16 => ?_)
    · refine gg_st (go_aload_n 0 d_X6_storeRule_110 rfl rfl rfl) ?_
      refine gg_st (go_iload_n 2 d_X6_storeRule_111 rfl rfl rfl) ?_
      refine gv_I (k_X6_hasSlot l w v15 g) cv_X6_234 sC_1 (Nat.le_of_ble_eq_true rfl) rfl rfl (Nat.le_of_ble_eq_true rfl) d_X6_storeRule_112 rfl (fun x17 => ?_)
      refine gg_bind 144 (fun (t18 : St) => [some (.ref (1)), some (.int c1), some (.int v15), none, none]) (fun (t18 : St) => []) (fun (t18 : St) => t18) ?_ (fun t18 => ?_)
      · refine gg_br (br_if_eq (tgt := 144) (pc' := 118) d_X6_storeRule_115 (by decide) rfl) (fun h19 => ?_) (fun h19 => ?_)
        · exact gg_end rfl
        · refine gg_st (go_aload_n 0 d_X6_storeRule_118 rfl rfl rfl) ?_
          refine gg_st (go_getR (j := 6) cf6 sC_1 rfl (by decide) fl_X6_32 d_X6_storeRule_119 rfl) ?_
          refine gg_st (go_getR (j := 1) cf0 sC_14 rfl (by decide) fl_X6_129 d_X6_storeRule_122 rfl) ?_
          refine gg_st (go_iload_n 1 d_X6_storeRule_125 rfl rfl rfl) ?_
          refine gg_st (go_iload_n 2 d_X6_storeRule_126 rfl rfl rfl) ?_
          refine gs_I (k_X11_endCode l w v15 g) cs_X6_264 (Nat.le_of_ble_eq_true rfl) rfl rfl (Nat.le_of_ble_eq_true rfl) d_X6_storeRule_127 rfl (fun x20 => ?_)
          refine gg_st (go_aload_n 0 d_X6_storeRule_130 rfl rfl rfl) ?_
          refine gg_st (go_getR (j := 0) cf6 sC_1 rfl (by decide) fl_X6_12 d_X6_storeRule_131 rfl) ?_
          refine gg_st (go_iload_n 2 d_X6_storeRule_134 rfl rfl rfl) ?_
          refine gs_I (k_X1_outerPoint l w v15 g) cs_X6_160 (Nat.le_of_ble_eq_true rfl) rfl rfl (Nat.le_of_ble_eq_true rfl) d_X6_storeRule_135 rfl (fun x21 => ?_)
          refine gv_IS (k_X1_farCode l w F x21 g) cv_X6_228 sC_2 (Nat.le_of_ble_eq_true rfl) rfl rfl (Nat.le_of_ble_eq_true rfl) d_X6_storeRule_138 rfl (fun x22 => ?_)
          refine gv_V (k_X8_setWire l w c1 x20 x22.1 x22.2) cv_X6_261 sC_19 (Nat.le_of_ble_eq_true rfl) rfl rfl (Nat.le_of_ble_eq_true rfl) d_X6_storeRule_141 rfl (fun s23 => ?_)
          exact gg_end rfl
      · refine gg_st (go_iinc 2 d_X6_storeRule_144 rfl (v := v15 + (1 : Int32)) (by rw [ci_1]) (by decide) (L' := [some (.ref (1)), some (.int c1), some (.int (v15 + (1 : Int32))), none, none]) rfl rfl) ?_
        refine gg_st (go_goto (pc' := 104) d_X6_storeRule_147 (by decide)) ?_
        exact ih (v15 + (1 : Int32)) t18
    · refine gg_st (go_fg [some (.ref (1)), some (.int c1), none, none, none] ⟨rfl, ⟨rfl, trivial⟩⟩) ?_
      exact gg_end rfl
set_option maxRecDepth 20000 in
theorem k_X6_storeRule (l : Launch) (w : Wo) (F : Nat) (p1 : Int32) (σ : St) : K l w shC m_X6_storeRule 4 [.ref (1), .int p1] σ (f_X6_storeRule F p1 σ) (rV) := by
  refine k_of (L := [some (.ref (1)), some (.int p1), none, none, none]) (plainFor_of_name (by decide +kernel)) 3 rfl (Nat.le_of_ble_eq_true rfl) ?_
  unfold f_X6_storeRule
  refine gg_st (go_iconst d_X6_storeRule_0 ci_0 rfl) ?_
  refine gg_st (go_istore_n 2 d_X6_storeRule_1 rfl (by decide) (L' := [some (.ref (1)), some (.int p1), some (.int (0 : Int32)), none, none]) rfl rfl) ?_
  refine gg_bind 102 (fun (t14 : St) => [some (.ref (1)), some (.int p1), none, none, none]) (fun (t14 : St) => []) (fun (t14 : St) => t14) (g_f_X6_storeRule_L2 l w F p1 F (0 : Int32) σ) (fun t14 => ?_)
  refine gg_st (go_iconst d_X6_storeRule_102 ci_0 rfl) ?_
  refine gg_st (go_istore_n 2 d_X6_storeRule_103 rfl (by decide) (L' := [some (.ref (1)), some (.int p1), some (.int (0 : Int32)), none, none]) rfl rfl) ?_
  refine gg_bind 150 (fun (t24 : St) => [some (.ref (1)), some (.int p1), none, none, none]) (fun (t24 : St) => []) (fun (t24 : St) => t24) (g_f_X6_storeRule_L104 l w F p1 F (0 : Int32) t14) (fun t24 => ?_)
  refine gg_st (go_aload_n 0 d_X6_storeRule_150 rfl rfl rfl) ?_
  refine gg_st (go_getR (j := 6) cf6 sC_1 rfl (by decide) fl_X6_32 d_X6_storeRule_151 rfl) ?_
  refine gg_st (go_getR (j := 1) cf0 sC_14 rfl (by decide) fl_X6_129 d_X6_storeRule_154 rfl) ?_
  refine gg_st (go_iload_n 1 d_X6_storeRule_157 rfl rfl rfl) ?_
  refine gg_st (go_aload_n 0 d_X6_storeRule_158 rfl rfl rfl) ?_
  refine gg_st (go_getR (j := 0) cf6 sC_1 rfl (by decide) fl_X6_12 d_X6_storeRule_159 rfl) ?_
  refine gv_IS (k_X1_countRings l w F  t24) cv_X6_267 sC_2 (Nat.le_of_ble_eq_true rfl) rfl rfl (Nat.le_of_ble_eq_true rfl) d_X6_storeRule_162 rfl (fun x25 => ?_)
  refine gv_V (k_X8_setRings l w p1 x25.1 x25.2) cv_X6_271 sC_19 (Nat.le_of_ble_eq_true rfl) rfl rfl (Nat.le_of_ble_eq_true rfl) d_X6_storeRule_165 rfl (fun s26 => ?_)
  exact gg_vret rfl d_X6_storeRule_168 rfl
