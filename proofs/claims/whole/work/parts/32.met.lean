def f_X12_fresh (p1 : Int32) (σ : St) : Option (Int32) :=
  if inb (p1 / (5 : Int32)) 12 then (
    some (((5 : Int32) * (σ.1 (42) (ix (p1 / (5 : Int32))))) + (p1 - p1 / (5 : Int32) * (5 : Int32))))
  else none
set_option maxRecDepth 20000 in
theorem k_X12_fresh (l : Launch) (w : Wo) (p1 : Int32) (σ : St) : K l w shM m_X12_fresh 1 [.ref (0), .int p1] σ (f_X12_fresh p1 σ) (rI σ) := by
  refine k_of (L := [some (.ref (0)), some (.int p1)]) (plainFor_of_name (by decide +kernel)) 0 rfl (Nat.le_of_ble_eq_true rfl) ?_
  unfold f_X12_fresh
  refine gg_st (go_iconst d_X12_fresh_0 ci_5 rfl) ?_
  refine gg_st (go_aload_n 0 d_X12_fresh_1 rfl rfl rfl) ?_
  refine gg_st (go_getR (j := 71) cf12 sM_0 rfl (by decide) fl_X12_143 d_X12_fresh_2 rfl) ?_
  refine gg_st (go_iload_n 1 d_X12_fresh_5 rfl rfl rfl) ?_
  refine gg_st (go_iconst d_X12_fresh_6 ci_5 rfl) ?_
  refine gg_st (go_idiv d_X12_fresh_7 (by decide) rfl) ?_
  refine gg_gd (fun h1 => ?_)
  refine gg_st (go_iald sM_42 h1 d_X12_fresh_8 rfl) ?_
  refine gg_st (go_imul d_X12_fresh_9 rfl) ?_
  refine gg_st (go_iload_n 1 d_X12_fresh_10 rfl rfl rfl) ?_
  refine gg_st (go_iconst d_X12_fresh_11 ci_5 rfl) ?_
  refine gg_st (go_irem d_X12_fresh_12 (by decide) rfl) ?_
  refine gg_st (go_iadd d_X12_fresh_13 rfl) ?_
  exact gg_iret rfl d_X12_fresh_14 rfl
def f_X12_goRound_L2 (F : Nat) (c1 : Int32) : Nat → Int32 → St → Option (Int32 × St)
  | 0, _, _ => none
  | n + 1, v1, g =>
    if inb v1 10 then (
      if (g.1 (41) (ix v1)) = 0 then (
        if inb v1 10 then (
          Option.bind (some (seti g (41) (ix v1) (1 : Int32))) fun s7 =>
          if inb v1 10 then (
            Option.bind (some ((s7.1 (40) (ix v1)) - (10000 : Int32))) fun x9 =>
            if inb x9 10 then (
              Option.bind (some (seti s7 (41) (ix x9) (1 : Int32))) fun s11 =>
              if inb ((((70 : Int32) * c1) + (60 : Int32)) + x9) 4200 then (
                Option.bind (some (s11.1 (10) (ix ((((70 : Int32) * c1) + (60 : Int32)) + x9)))) fun x13 =>
                if x13 < (60 : Int32) then (
                  some ((0 : Int32), s11))
                else (
                  Option.bind (some (x13 - (60 : Int32))) fun x15 =>
                  f_X12_goRound_L2 F c1 n x15 s11))
              else none)
            else none)
          else none)
        else none)
      else (
        some ((1 : Int32), g)))
    else none
def f_X12_goRound (F : Nat) (p1 : Int32) (p2 : Int32) (σ : St) : Option (Int32 × St) :=
  f_X12_goRound_L2 F p1 F p2 σ
set_option maxRecDepth 20000 in
theorem g_f_X12_goRound_L2 (l : Launch) (w : Wo) (F : Nat) (c1 : Int32) : ∀ (n : Nat) (v1 : Int32) (g : St), GG l w shM m_X12_goRound 1 2 [some (.ref (0)), some (.int c1), none, some (.int v1), none, none] [] g (f_X12_goRound_L2 F c1 n v1 g) (fun q => .inr ((rIS) q)) := by
  intro n
  induction n with
  | zero =>
    intro v1 g
    exact gg_none
  | succ n ih =>
    intro v1 g
    rw [f_X12_goRound_L2]
    refine gg_st (go_aload_n 0 d_X12_goRound_2 rfl rfl rfl) ?_
    refine gg_st (go_getR (j := 70) cf12 sM_0 rfl (by decide) fl_X12_140 d_X12_goRound_3 rfl) ?_
    refine gg_st (go_iload_n 3 d_X12_goRound_6 rfl rfl rfl) ?_
    refine gg_gd (fun h2 => ?_)
    refine gg_st (go_zald sM_41 h2 d_X12_goRound_7 rfl) ?_
    refine gg_br (br_if_ne (tgt := 73) (pc' := 11) d_X12_goRound_8 (by decide) rfl) (fun h5 => ?_) (fun h5 => ?_)
    · refine gg_st (go_aload_n 0 d_X12_goRound_11 rfl rfl rfl) ?_
      refine gg_st (go_getR (j := 70) cf12 sM_0 rfl (by decide) fl_X12_140 d_X12_goRound_12 rfl) ?_
      refine gg_st (go_iload_n 3 d_X12_goRound_15 rfl rfl rfl) ?_
      refine gg_st (go_iconst d_X12_goRound_16 ci_1 rfl) ?_
      refine gg_gd (fun h6 => ?_)
      refine gg_st (go_zast (Or.inr rfl) sM_41 h6 d_X12_goRound_17 rfl) ?_
      refine gg_som (fun s7 => ?_)
      refine gg_st (go_aload_n 0 d_X12_goRound_18 rfl rfl rfl) ?_
      refine gg_st (go_getR (j := 69) cf12 sM_0 rfl (by decide) fl_X12_137 d_X12_goRound_19 rfl) ?_
      refine gg_st (go_iload_n 3 d_X12_goRound_22 rfl rfl rfl) ?_
      refine gg_gd (fun h8 => ?_)
      refine gg_st (go_iald sM_40 h8 d_X12_goRound_23 rfl) ?_
      refine gg_st (go_sipush d_X12_goRound_24 cs_10000 rfl) ?_
      refine gg_st (go_isub d_X12_goRound_27 rfl) ?_
      refine gg_nm (fun _ => [some (.ref (0)), some (.int c1), none, some (.int v1), none, none]) (fun (x9 : Int32) => [.int x9]) (fun x9 => ?_)
      refine gg_st (go_istore 4 d_X12_goRound_28 (by decide) (L' := [some (.ref (0)), some (.int c1), none, some (.int v1), some (.int x9), none]) rfl rfl) ?_
      refine gg_st (go_aload_n 0 d_X12_goRound_30 rfl rfl rfl) ?_
      refine gg_st (go_getR (j := 70) cf12 sM_0 rfl (by decide) fl_X12_140 d_X12_goRound_31 rfl) ?_
      refine gg_st (go_iload 4 d_X12_goRound_34 rfl rfl) ?_
      refine gg_st (go_iconst d_X12_goRound_36 ci_1 rfl) ?_
      refine gg_gd (fun h10 => ?_)
      refine gg_st (go_zast (Or.inr rfl) sM_41 h10 d_X12_goRound_37 rfl) ?_
      refine gg_som (fun s11 => ?_)
      refine gg_st (go_aload_n 0 d_X12_goRound_38 rfl rfl rfl) ?_
      refine gg_st (go_getR (j := 13) cf12 sM_0 rfl (by decide) fl_X12_43 d_X12_goRound_39 rfl) ?_
      refine gg_st (go_bipush d_X12_goRound_42 cb_70 rfl) ?_
      refine gg_st (go_iload_n 1 d_X12_goRound_44 rfl rfl rfl) ?_
      refine gg_st (go_imul d_X12_goRound_45 rfl) ?_
      refine gg_st (go_bipush d_X12_goRound_46 cb_60 rfl) ?_
      refine gg_st (go_iadd d_X12_goRound_48 rfl) ?_
      refine gg_st (go_iload 4 d_X12_goRound_49 rfl rfl) ?_
      refine gg_st (go_iadd d_X12_goRound_51 rfl) ?_
      refine gg_gd (fun h12 => ?_)
      refine gg_st (go_iald sM_10 h12 d_X12_goRound_52 rfl) ?_
      refine gg_nm (fun _ => [some (.ref (0)), some (.int c1), none, some (.int v1), some (.int x9), none]) (fun (x13 : Int32) => [.int x13]) (fun x13 => ?_)
      refine gg_st (go_istore 5 d_X12_goRound_53 (by decide) (L' := [some (.ref (0)), some (.int c1), none, some (.int v1), some (.int x9), some (.int x13)]) rfl rfl) ?_
      refine gg_st (go_iload 5 d_X12_goRound_55 rfl rfl) ?_
      refine gg_st (go_bipush d_X12_goRound_57 cb_60 rfl) ?_
      refine gg_br (br_icmp_ge (tgt := 64) (pc' := 62) d_X12_goRound_59 (by decide) rfl) (fun h14 => ?_) (fun h14 => ?_)
      · refine gg_st (go_iconst d_X12_goRound_62 ci_0 rfl) ?_
        exact gg_zret (Or.inl rfl) rfl d_X12_goRound_63 rfl
      · refine gg_st (go_iload 5 d_X12_goRound_64 rfl rfl) ?_
        refine gg_st (go_bipush d_X12_goRound_66 cb_60 rfl) ?_
        refine gg_st (go_isub d_X12_goRound_68 rfl) ?_
        refine gg_nm (fun _ => [some (.ref (0)), some (.int c1), none, some (.int v1), some (.int x9), some (.int x13)]) (fun (x15 : Int32) => [.int x15]) (fun x15 => ?_)
        refine gg_st (go_istore_n 3 d_X12_goRound_69 rfl (by decide) (L' := [some (.ref (0)), some (.int c1), none, some (.int x15), some (.int x9), some (.int x13)]) rfl rfl) ?_
        refine gg_st (go_goto (pc' := 2) d_X12_goRound_70 (by decide)) ?_
        refine gg_st (go_fg [some (.ref (0)), some (.int c1), none, some (.int x15), none, none] ⟨rfl, ⟨rfl, ⟨rfl, trivial⟩⟩⟩) ?_
        exact ih x15 s11
    · refine gg_st (go_iconst d_X12_goRound_73 ci_1 rfl) ?_
      exact gg_zret (Or.inr rfl) rfl d_X12_goRound_74 rfl
set_option maxRecDepth 20000 in
theorem k_X12_goRound (l : Launch) (w : Wo) (F : Nat) (p1 : Int32) (p2 : Int32) (σ : St) : K l w shM m_X12_goRound 1 [.ref (0), .int p1, .int p2] σ (f_X12_goRound F p1 p2 σ) (rIS) := by
  refine k_of (L := [some (.ref (0)), some (.int p1), some (.int p2), none, none, none]) (plainFor_of_name (by decide +kernel)) 3 rfl (Nat.le_of_ble_eq_true rfl) ?_
  unfold f_X12_goRound
  refine gg_st (go_iload_n 2 d_X12_goRound_0 rfl rfl rfl) ?_
  refine gg_st (go_istore_n 3 d_X12_goRound_1 rfl (by decide) (L' := [some (.ref (0)), some (.int p1), some (.int p2), some (.int p2), none, none]) rfl rfl) ?_
  refine gg_st (go_fg [some (.ref (0)), some (.int p1), none, some (.int p2), none, none] ⟨rfl, ⟨rfl, ⟨rfl, trivial⟩⟩⟩) ?_
  refine g_f_X12_goRound_L2 l w F p1  F p2 σ
def f_X12_outward_L2 (F : Nat) (c1 : Int32) (k0 : Int32 × St → Option (Int32 × St)) (k1 : Int32 × St → Option (Int32 × St)) : Nat → Int32 → St → Option (Int32 × St)
  | 0, _, _ => none
  | n + 1, v1, g =>
    if inb v1 10 then (
      Option.bind (some (seti g (41) (ix v1) (1 : Int32))) fun s3 =>
      if inb v1 10 then (
        if (s3.1 (40) (ix v1)) < (10000 : Int32) then (
          k1 (v1, s3))
        else (
          if inb v1 10 then (
            Option.bind (some ((s3.1 (40) (ix v1)) - (10000 : Int32))) fun x8 =>
            if inb x8 10 then (
              Option.bind (some (seti s3 (41) (ix x8) (1 : Int32))) fun s10 =>
              if inb ((((70 : Int32) * c1) + (60 : Int32)) + x8) 4200 then (
                Option.bind (some (s10.1 (10) (ix ((((70 : Int32) * c1) + (60 : Int32)) + x8)))) fun x12 =>
                if x12 < (60 : Int32) then (
                  k0 (x12, s10))
                else (
                  Option.bind (some (x12 - (60 : Int32))) fun x14 =>
                  f_X12_outward_L2 F c1 k0 k1 n x14 s10))
              else none)
            else none)
          else none))
      else none)
    else none
def f_X12_outward (F : Nat) (p1 : Int32) (p2 : Int32) (σ : St) : Option (Int32 × St) :=
  f_X12_outward_L2 F p1
    (fun (t15 : Int32 × St) =>
      Option.bind (f_X12_fresh t15.1 t15.2) fun x16 =>
      some (x16, t15.2))
    (fun (t17 : Int32 × St) =>
      if inb t17.1 10 then (
        some (t17.2.1 (40) (ix t17.1), t17.2))
      else none) F p2 σ
set_option maxRecDepth 20000 in
theorem g_f_X12_outward_L2 (l : Launch) (w : Wo) (F : Nat) (c1 : Int32) (k0 : Int32 × St → Option (Int32 × St)) (k1 : Int32 × St → Option (Int32 × St)) (hk0 : ∀ t, GG l w shM m_X12_outward 2 69 [some (.ref (0)), none, none, none, some (.int t.1)] [] t.2 (k0 t) (fun q => .inr ((rIS) q))) (hk1 : ∀ t, GG l w shM m_X12_outward 2 21 [some (.ref (0)), none, none, some (.int t.1), none] [] t.2 (k1 t) (fun q => .inr ((rIS) q))) : ∀ (n : Nat) (v1 : Int32) (g : St), GG l w shM m_X12_outward 2 2 [some (.ref (0)), some (.int c1), none, some (.int v1), none] [] g (f_X12_outward_L2 F c1 k0 k1 n v1 g) (fun q => .inr ((rIS) q)) := by
  intro n
  induction n with
  | zero =>
    intro v1 g
    exact gg_none
  | succ n ih =>
    intro v1 g
    rw [f_X12_outward_L2]
    refine gg_st (go_aload_n 0 d_X12_outward_2 rfl rfl rfl) ?_
    refine gg_st (go_getR (j := 70) cf12 sM_0 rfl (by decide) fl_X12_140 d_X12_outward_3 rfl) ?_
    refine gg_st (go_iload_n 3 d_X12_outward_6 rfl rfl rfl) ?_
    refine gg_st (go_iconst d_X12_outward_7 ci_1 rfl) ?_
    refine gg_gd (fun h2 => ?_)
    refine gg_st (go_zast (Or.inr rfl) sM_41 h2 d_X12_outward_8 rfl) ?_
    refine gg_som (fun s3 => ?_)
    refine gg_st (go_aload_n 0 d_X12_outward_9 rfl rfl rfl) ?_
    refine gg_st (go_getR (j := 69) cf12 sM_0 rfl (by decide) fl_X12_137 d_X12_outward_10 rfl) ?_
    refine gg_st (go_iload_n 3 d_X12_outward_13 rfl rfl rfl) ?_
    refine gg_gd (fun h4 => ?_)
    refine gg_st (go_iald sM_40 h4 d_X12_outward_14 rfl) ?_
    refine gg_st (go_sipush d_X12_outward_15 cs_10000 rfl) ?_
    refine gg_br (br_icmp_ge (tgt := 28) (pc' := 21) d_X12_outward_18 (by decide) rfl) (fun h6 => ?_) (fun h6 => ?_)
    · refine gg_st (go_fg [some (.ref (0)), none, none, some (.int v1), none] ⟨rfl, ⟨rfl, trivial⟩⟩) ?_
      exact hk1 (v1, s3)
    · refine gg_st (go_aload_n 0 d_X12_outward_28 rfl rfl rfl) ?_
      refine gg_st (go_getR (j := 69) cf12 sM_0 rfl (by decide) fl_X12_137 d_X12_outward_29 rfl) ?_
      refine gg_st (go_iload_n 3 d_X12_outward_32 rfl rfl rfl) ?_
      refine gg_gd (fun h7 => ?_)
      refine gg_st (go_iald sM_40 h7 d_X12_outward_33 rfl) ?_
      refine gg_st (go_sipush d_X12_outward_34 cs_10000 rfl) ?_
      refine gg_st (go_isub d_X12_outward_37 rfl) ?_
      refine gg_nm (fun _ => [some (.ref (0)), some (.int c1), none, some (.int v1), none]) (fun (x8 : Int32) => [.int x8]) (fun x8 => ?_)
      refine gg_st (go_istore_n 3 d_X12_outward_38 rfl (by decide) (L' := [some (.ref (0)), some (.int c1), none, some (.int x8), none]) rfl rfl) ?_
      refine gg_st (go_aload_n 0 d_X12_outward_39 rfl rfl rfl) ?_
      refine gg_st (go_getR (j := 70) cf12 sM_0 rfl (by decide) fl_X12_140 d_X12_outward_40 rfl) ?_
      refine gg_st (go_iload_n 3 d_X12_outward_43 rfl rfl rfl) ?_
      refine gg_st (go_iconst d_X12_outward_44 ci_1 rfl) ?_
      refine gg_gd (fun h9 => ?_)
      refine gg_st (go_zast (Or.inr rfl) sM_41 h9 d_X12_outward_45 rfl) ?_
      refine gg_som (fun s10 => ?_)
      refine gg_st (go_aload_n 0 d_X12_outward_46 rfl rfl rfl) ?_
      refine gg_st (go_getR (j := 13) cf12 sM_0 rfl (by decide) fl_X12_43 d_X12_outward_47 rfl) ?_
      refine gg_st (go_bipush d_X12_outward_50 cb_70 rfl) ?_
      refine gg_st (go_iload_n 1 d_X12_outward_52 rfl rfl rfl) ?_
      refine gg_st (go_imul d_X12_outward_53 rfl) ?_
      refine gg_st (go_bipush d_X12_outward_54 cb_60 rfl) ?_
      refine gg_st (go_iadd d_X12_outward_56 rfl) ?_
      refine gg_st (go_iload_n 3 d_X12_outward_57 rfl rfl rfl) ?_
      refine gg_st (go_iadd d_X12_outward_58 rfl) ?_
      refine gg_gd (fun h11 => ?_)
      refine gg_st (go_iald sM_10 h11 d_X12_outward_59 rfl) ?_
      refine gg_nm (fun _ => [some (.ref (0)), some (.int c1), none, some (.int x8), none]) (fun (x12 : Int32) => [.int x12]) (fun x12 => ?_)
      refine gg_st (go_istore 4 d_X12_outward_60 (by decide) (L' := [some (.ref (0)), some (.int c1), none, some (.int x8), some (.int x12)]) rfl rfl) ?_
      refine gg_st (go_iload 4 d_X12_outward_62 rfl rfl) ?_
      refine gg_st (go_bipush d_X12_outward_64 cb_60 rfl) ?_
      refine gg_br (br_icmp_ge (tgt := 76) (pc' := 69) d_X12_outward_66 (by decide) rfl) (fun h13 => ?_) (fun h13 => ?_)
      · refine gg_st (go_fg [some (.ref (0)), none, none, none, some (.int x12)] ⟨rfl, ⟨rfl, trivial⟩⟩) ?_
        exact hk0 (x12, s10)
      · refine gg_st (go_iload 4 d_X12_outward_76 rfl rfl) ?_
        refine gg_st (go_bipush d_X12_outward_78 cb_60 rfl) ?_
        refine gg_st (go_isub d_X12_outward_80 rfl) ?_
        refine gg_nm (fun _ => [some (.ref (0)), some (.int c1), none, some (.int x8), some (.int x12)]) (fun (x14 : Int32) => [.int x14]) (fun x14 => ?_)
        refine gg_st (go_istore_n 3 d_X12_outward_81 rfl (by decide) (L' := [some (.ref (0)), some (.int c1), none, some (.int x14), some (.int x12)]) rfl rfl) ?_
        refine gg_st (go_goto (pc' := 2) d_X12_outward_82 (by decide)) ?_
        refine gg_st (go_fg [some (.ref (0)), some (.int c1), none, some (.int x14), none] ⟨rfl, ⟨rfl, ⟨rfl, trivial⟩⟩⟩) ?_
        exact ih x14 s10
set_option maxRecDepth 20000 in
theorem k_X12_outward (l : Launch) (w : Wo) (F : Nat) (p1 : Int32) (p2 : Int32) (σ : St) : K l w shM m_X12_outward 2 [.ref (0), .int p1, .int p2] σ (f_X12_outward F p1 p2 σ) (rIS) := by
  refine k_of (L := [some (.ref (0)), some (.int p1), some (.int p2), none, none]) (plainFor_of_name (by decide +kernel)) 2 rfl (Nat.le_of_ble_eq_true rfl) ?_
  unfold f_X12_outward
  refine gg_st (go_iload_n 2 d_X12_outward_0 rfl rfl rfl) ?_
  refine gg_st (go_istore_n 3 d_X12_outward_1 rfl (by decide) (L' := [some (.ref (0)), some (.int p1), some (.int p2), some (.int p2), none]) rfl rfl) ?_
  refine gg_st (go_fg [some (.ref (0)), some (.int p1), none, some (.int p2), none] ⟨rfl, ⟨rfl, ⟨rfl, trivial⟩⟩⟩) ?_
  refine g_f_X12_outward_L2 l w F p1 _ _ (fun t15 => ?_) (fun t17 => ?_) F p2 σ
  · refine gg_st (go_aload_n 0 d_X12_outward_69 rfl rfl rfl) ?_
    refine gg_st (go_iload 4 d_X12_outward_70 rfl rfl) ?_
    refine gv_I (k_X12_fresh l w t15.1 t15.2) cv_X12_412 sM_0 (Nat.le_of_ble_eq_true rfl) rfl rfl (Nat.le_of_ble_eq_true rfl) d_X12_outward_72 rfl (fun x16 => ?_)
    exact gg_iret rfl d_X12_outward_75 rfl
  · refine gg_st (go_aload_n 0 d_X12_outward_21 rfl rfl rfl) ?_
    refine gg_st (go_getR (j := 69) cf12 sM_0 rfl (by decide) fl_X12_137 d_X12_outward_22 rfl) ?_
    refine gg_st (go_iload_n 3 d_X12_outward_25 rfl rfl rfl) ?_
    refine gg_gd (fun h18 => ?_)
    refine gg_st (go_iald sM_40 h18 d_X12_outward_26 rfl) ?_
    exact gg_iret rfl d_X12_outward_27 rfl
def f_X12_wire (p1 : Int32) (p2 : Int32) (σ : St) : Option (St) :=
  if p1 < 0 then (
    if inb ((-2 : Int32) - p1) 8 then (
      Option.bind (some (seti σ (14) (ix ((-2 : Int32) - p1)) p2)) fun s7 =>
      some s7)
    else none)
  else (
    if inb p1 2000 then (
      Option.bind (some (seti σ (13) (ix p1) p2)) fun s9 =>
      some s9)
    else none)
set_option maxRecDepth 20000 in
theorem k_X12_wire (l : Launch) (w : Wo) (p1 : Int32) (p2 : Int32) (σ : St) : K l w shM m_X12_wire 1 [.ref (0), .int p1, .int p2] σ (f_X12_wire p1 p2 σ) (rV) := by
  refine k_of (L := [some (.ref (0)), some (.int p1), some (.int p2)]) (plainFor_of_name (by decide +kernel)) 0 rfl (Nat.le_of_ble_eq_true rfl) ?_
  unfold f_X12_wire
  refine gg_st (go_iload_n 1 d_X12_wire_0 rfl rfl rfl) ?_
  refine gg_br (br_if_ge (tgt := 17) (pc' := 4) d_X12_wire_1 (by decide) rfl) (fun h5 => ?_) (fun h5 => ?_)
  · refine gg_st (go_aload_n 0 d_X12_wire_4 rfl rfl rfl) ?_
    refine gg_st (go_getR (j := 17) cf12 sM_0 rfl (by decide) fl_X12_55 d_X12_wire_5 rfl) ?_
    refine gg_st (go_bipush d_X12_wire_8 cb_m2 rfl) ?_
    refine gg_st (go_iload_n 1 d_X12_wire_10 rfl rfl rfl) ?_
    refine gg_st (go_isub d_X12_wire_11 rfl) ?_
    refine gg_st (go_iload_n 2 d_X12_wire_12 rfl rfl rfl) ?_
    refine gg_gd (fun h6 => ?_)
    refine gg_st (go_iast sM_14 h6 d_X12_wire_13 rfl) ?_
    refine gg_som (fun s7 => ?_)
    refine gg_st (go_goto (pc' := 24) d_X12_wire_14 (by decide)) ?_
    exact gg_vret rfl d_X12_wire_24 rfl
  · refine gg_st (go_aload_n 0 d_X12_wire_17 rfl rfl rfl) ?_
    refine gg_st (go_getR (j := 16) cf12 sM_0 rfl (by decide) fl_X12_52 d_X12_wire_18 rfl) ?_
    refine gg_st (go_iload_n 1 d_X12_wire_21 rfl rfl rfl) ?_
    refine gg_st (go_iload_n 2 d_X12_wire_22 rfl rfl rfl) ?_
    refine gg_gd (fun h8 => ?_)
    refine gg_st (go_iast sM_13 h8 d_X12_wire_23 rfl) ?_
    refine gg_som (fun s9 => ?_)
    exact gg_vret rfl d_X12_wire_24 rfl
def f_X12_doStep_L198 (F : Nat) (c3 : Int32) (c8 : Int32) (c9 : Int32) (c10 : Int32) (σ : St) : Nat → Int32 → Option (Int32)
  | 0, _ => none
  | n + 1, v33 =>
    if inb v33 400 then (
      if 0 ≤ (σ.1 (12) (ix v33)) then (
        f_X12_doStep_L198 F c3 c8 c9 c10 σ n (v33 + (1 : Int32)))
      else (
        some v33))
    else none
def f_X12_doStep_L184 (F : Nat) (c3 : Int32) (c8 : Int32) (c9 : Int32) : Nat → Int32 → St → Option (St)
  | 0, _, _ => none
  | n + 1, v30, g =>
    if inb c3 60 then (
      if v30 < (g.1 (8) (ix c3)) then (
        Option.bind (f_X12_doStep_L198 F c3 c8 c9 v30 g F (0 : Int32)) fun t36 =>
        if inb v30 12 then (
          Option.bind (some (seti g (42) (ix v30) t36)) fun s38 =>
          if inb (((12 : Int32) * c3) + v30) 720 then (
            if inb t36 400 then (
              Option.bind (some (seti s38 (12) (ix t36) (s38.1 (9) (ix (((12 : Int32) * c3) + v30))))) fun s41 =>
              f_X12_doStep_L184 F c3 c8 c9 n (v30 + (1 : Int32)) s41)
            else none)
          else none)
        else none)
      else (
        some g))
    else none
def f_X12_doStep_L265 (F : Nat) (c3 : Int32) (c8 : Int32) (c9 : Int32) (c10 : Int32) : Nat → Int32 → St → Option (St)
  | 0, _, _ => none
  | n + 1, v46, g =>
    if inb (((12 : Int32) * c3) + c10) 720 then (
      if inb (g.1 (9) (ix (((12 : Int32) * c3) + c10))) 16 then (
        if v46 < (g.1 (3) (ix (g.1 (9) (ix (((12 : Int32) * c3) + c10))))) then (
          if inb ((((70 : Int32) * c3) + ((5 : Int32) * c10)) + v46) 4200 then (
            Option.bind (some (g.1 (10) (ix ((((70 : Int32) * c3) + ((5 : Int32) * c10)) + v46)))) fun x52 =>
            Option.bind (f_X12_fresh (((5 : Int32) * c10) + v46) g) fun x53 =>
            Option.bind (
              if x52 < (60 : Int32) then (
                Option.bind (f_X12_fresh x52 g) fun x56 =>
                some (x56, g))
              else (
                Option.bind (f_X12_outward F c3 (x52 - (60 : Int32)) g) fun x57 =>
                some (x57.1, x57.2))) fun t54 =>
            if inb x53 2000 then (
              Option.bind (some (seti t54.2 (13) (ix x53) t54.1)) fun s59 =>
              Option.bind (f_X12_wire t54.1 x53 s59) fun s60 =>
              f_X12_doStep_L265 F c3 c8 c9 c10 n (v46 + (1 : Int32)) s60)
            else none)
          else none)
        else (
          some g))
      else none)
    else none
def f_X12_doStep_L251 (F : Nat) (c3 : Int32) (c8 : Int32) (c9 : Int32) : Nat → Int32 → St → Option (St)
  | 0, _, _ => none
  | n + 1, v43, g =>
    if inb c3 60 then (
      if v43 < (g.1 (8) (ix c3)) then (
        Option.bind (f_X12_doStep_L265 F c3 c8 c9 v43 F (0 : Int32) g) fun t61 =>
        f_X12_doStep_L251 F c3 c8 c9 n (v43 + (1 : Int32)) t61)
      else (
        some g))
    else none
def f_X12_doStep_L379 (F : Nat) (c3 : Int32) (c8 : Int32) (c9 : Int32) : Nat → Int32 → St → Option (St)
  | 0, _, _ => none
  | n + 1, v63, g =>
    if v63 < (10 : Int32) then (
      Option.bind (
        Option.bind (some (fun (t66 : Unit) =>
          some (0 : Int32))) fun jp67 =>
        if 0 < (v63 - v63 / (5 : Int32) * (5 : Int32)) then (
          Option.bind (
            if v63 < (5 : Int32) then (
              some c8)
            else (
              some c9)) fun t69 =>
          if (v63 - v63 / (5 : Int32) * (5 : Int32)) < t69 then (
            some (1 : Int32))
          else (
            jp67 ()))
        else (
          jp67 ())) fun t65 =>
      Option.bind (
        if t65 = 0 then (
          some g)
        else (
          if inb v63 10 then (
            if (g.1 (40) (ix v63)) < (10000 : Int32) then (
              if inb ((((70 : Int32) * c3) + (60 : Int32)) + v63) 4200 then (
                if (60 : Int32) ≤ (g.1 (10) (ix ((((70 : Int32) * c3) + (60 : Int32)) + v63))) then (
                  if inb v63 10 then (
                    Option.bind (some (seti g (41) (ix v63) (1 : Int32))) fun s83 =>
                    if inb v63 10 then (
                      if inb ((((70 : Int32) * c3) + (60 : Int32)) + v63) 4200 then (
                        Option.bind (f_X12_outward F c3 ((s83.1 (10) (ix ((((70 : Int32) * c3) + (60 : Int32)) + v63))) - (60 : Int32)) s83) fun x86 =>
                        Option.bind (f_X12_wire (s83.1 (40) (ix v63)) x86.1 x86.2) fun s87 =>
                        some s87)
                      else none)
                    else none)
                  else none)
                else (
                  some g))
              else none)
            else (
              some g))
          else none)) fun t72 =>
      f_X12_doStep_L379 F c3 c8 c9 n (v63 + (1 : Int32)) t72)
    else (
      some g)
def f_X12_doStep_L524 (F : Nat) (c3 : Int32) (c8 : Int32) (c9 : Int32) : Nat → Int32 → St → Option (St)
  | 0, _, _ => none
  | n + 1, v91, g =>
    if v91 < (10 : Int32) then (
      Option.bind (
        Option.bind (some (fun (t94 : Unit) =>
          some (0 : Int32))) fun jp95 =>
        if 0 < (v91 - v91 / (5 : Int32) * (5 : Int32)) then (
          Option.bind (
            if v91 < (5 : Int32) then (
              some c8)
            else (
              some c9)) fun t97 =>
          if (v91 - v91 / (5 : Int32) * (5 : Int32)) < t97 then (
            some (1 : Int32))
          else (
            jp95 ()))
        else (
          jp95 ())) fun t93 =>
      Option.bind (
        if t93 = 0 then (
          some g)
        else (
          if inb v91 10 then (
            if (g.1 (41) (ix v91)) = 0 then (
              if inb v91 10 then (
                if (10000 : Int32) ≤ (g.1 (40) (ix v91)) then (
                  Option.bind (f_X12_goRound F c3 v91 g) fun x108 =>
                  Option.bind (
                    if x108.1 = 0 then (
                      some (0 : Int32))
                    else (
                      some (1 : Int32))) fun t109 =>
                  Option.bind (some (seti x108.2 (0) 19 ((g.1 (0) 19) + t109))) fun s111 =>
                  some s111)
                else (
                  some g))
              else none)
            else (
              some g))
          else none)) fun t100 =>
      f_X12_doStep_L524 F c3 c8 c9 n (v91 + (1 : Int32)) t100)
    else (
      some g)
def f_X12_doStep (F : Nat) (p1 : Int32) (p2 : Int32) (σ : St) : Option (Int32 × St) :=
  Option.bind (f_X12_ruleFor p1 p2 σ) fun x1 =>
  Option.bind (f_X12_agentMany F σ) fun x2 =>
  if inb x1 60 then (
    if (400 : Int32) < ((x2 - (2 : Int32)) + (σ.1 (8) (ix x1))) then (
      some ((0 : Int32), σ))
    else (
      Option.bind (
        if p1 < p2 then (
          some p1)
        else (
          some p2)) fun t5 =>
      Option.bind (
        if p1 < p2 then (
          some p2)
        else (
          some p1)) fun t7 =>
      if inb t5 400 then (
        if inb t7 400 then (
          if inb ((σ.1 (0) 26) - (σ.1 (0) 26) / (50 : Int32) * (50 : Int32)) 50 then (
            Option.bind (some (seti σ (15) (ix ((σ.1 (0) 26) - (σ.1 (0) 26) / (50 : Int32) * (50 : Int32))) (((16 : Int32) * (σ.1 (12) (ix t5))) + (σ.1 (12) (ix t7))))) fun s12 =>
            Option.bind (some (seti s12 (0) 26 ((s12.1 (0) 26) + (1 : Int32)))) fun s13 =>
            if inb t5 400 then (
              if inb ((2 : Int32) * x1) 120 then (
                Option.bind (
                  if (s13.1 (12) (ix t5)) = (s13.1 (7) (ix ((2 : Int32) * x1))) then (
                    some t5)
                  else (
                    some t7)) fun t16 =>
                Option.bind (some ((t5 + t7) - t16)) fun x18 =>
                Option.bind (f_X12_findOuter F t16 x18 s13) fun s19 =>
                if inb t16 400 then (
                  if inb (s19.1 (12) (ix t16)) 16 then (
                    Option.bind (some (s19.1 (3) (ix (s19.1 (12) (ix t16))))) fun x22 =>
                    if inb x18 400 then (
                      if inb (s19.1 (12) (ix x18)) 16 then (
                        Option.bind (some (s19.1 (3) (ix (s19.1 (12) (ix x18))))) fun x25 =>
                        if inb t16 400 then (
                          Option.bind (some (seti s19 (12) (ix t16) (-1 : Int32))) fun s27 =>
                          if inb x18 400 then (
                            Option.bind (some (seti s27 (12) (ix x18) (-1 : Int32))) fun s29 =>
                            Option.bind (f_X12_doStep_L184 F x1 x22 x25 F (0 : Int32) s29) fun t42 =>
                            Option.bind (f_X12_doStep_L251 F x1 x22 x25 F (0 : Int32) t42) fun t62 =>
                            Option.bind (f_X12_doStep_L379 F x1 x22 x25 F (0 : Int32) t62) fun t88 =>
                            if inb x1 60 then (
                              Option.bind (some (seti t88 (0) 19 ((t88.1 (0) 19) + (t88.1 (11) (ix x1))))) fun s90 =>
                              Option.bind (f_X12_doStep_L524 F x1 x22 x25 F (0 : Int32) s90) fun t112 =>
                              Option.bind (some (seti t112 (0) 20 ((t112.1 (0) 20) + (1 : Int32)))) fun s113 =>
                              Option.bind (f_X12_agentMany F s113) fun x114 =>
                              Option.bind (
                                if (s113.1 (0) 21) < x114 then (
                                  some x114)
                                else (
                                  some (s113.1 (0) 21))) fun t115 =>
                              Option.bind (some (seti s113 (0) 21 t115)) fun s117 =>
                              some ((1 : Int32), s117))
                            else none)
                          else none)
                        else none)
                      else none)
                    else none)
                  else none)
                else none)
              else none)
            else none)
          else none)
        else none)
      else none))
  else none
set_option maxRecDepth 20000 in
theorem g_f_X12_doStep_L198 (l : Launch) (w : Wo) (F : Nat) (c3 : Int32) (c8 : Int32) (c9 : Int32) (c10 : Int32) (σ : St) : ∀ (n : Nat) (v33 : Int32), GG l w shM m_X12_doStep 3 198 [some (.ref (0)), none, none, some (.int c3), none, none, none, none, some (.int c8), some (.int c9), some (.int c10), some (.int v33), none, none, none] [] σ (f_X12_doStep_L198 F c3 c8 c9 c10 σ n v33) (fun (t : Int32) => .inl (214, [some (.ref (0)), none, none, some (.int c3), none, none, none, none, some (.int c8), some (.int c9), some (.int c10), some (.int t), none, none, none], [], σ)) := by
  intro n
  induction n with
  | zero =>
    intro v33
    exact gg_none
  | succ n ih =>
    intro v33
    rw [f_X12_doStep_L198]
    refine gg_st (go_aload_n 0 d_X12_doStep_198 rfl rfl rfl) ?_
    refine gg_st (go_getR (j := 15) cf12 sM_0 rfl (by decide) fl_X12_49 d_X12_doStep_199 rfl) ?_
    refine gg_st (go_iload 11 d_X12_doStep_202 rfl rfl) ?_
    refine gg_gd (fun h34 => ?_)
    refine gg_st (go_iald sM_12 h34 d_X12_doStep_204 rfl) ?_
    refine gg_br (br_if_lt (tgt := 214) (pc' := 208) d_X12_doStep_205 (by decide) rfl) (fun h35 => ?_) (fun h35 => ?_)
    · refine gg_st (go_iinc 11 d_X12_doStep_208 rfl (v := v33 + (1 : Int32)) (by rw [ci_1]) (by decide) (L' := [some (.ref (0)), none, none, some (.int c3), none, none, none, none, some (.int c8), some (.int c9), some (.int c10), some (.int (v33 + (1 : Int32))), none, none, none]) rfl rfl) ?_
      refine gg_st (go_goto (pc' := 198) d_X12_doStep_211 (by decide)) ?_
      exact ih (v33 + (1 : Int32))
    · exact gg_end rfl
set_option maxRecDepth 20000 in
theorem g_f_X12_doStep_L184 (l : Launch) (w : Wo) (F : Nat) (c3 : Int32) (c8 : Int32) (c9 : Int32) : ∀ (n : Nat) (v30 : Int32) (g : St), GG l w shM m_X12_doStep 3 184 [some (.ref (0)), none, none, some (.int c3), none, none, none, none, some (.int c8), some (.int c9), some (.int v30), none, none, none, none] [] g (f_X12_doStep_L184 F c3 c8 c9 n v30 g) (fun (t : St) => .inl (248, [some (.ref (0)), none, none, some (.int c3), none, none, none, none, some (.int c8), some (.int c9), none, none, none, none, none], [], t)) := by
  intro n
  induction n with
  | zero =>
    intro v30 g
    exact gg_none
  | succ n ih =>
    intro v30 g
    rw [f_X12_doStep_L184]
    refine gg_st (go_iload 10 d_X12_doStep_184 rfl rfl) ?_
    refine gg_st (go_aload_n 0 d_X12_doStep_186 rfl rfl rfl) ?_
    refine gg_st (go_getR (j := 11) cf12 sM_0 rfl (by decide) fl_X12_37 d_X12_doStep_187 rfl) ?_
    refine gg_st (go_iload_n 3 d_X12_doStep_190 rfl rfl rfl) ?_
    refine gg_gd (fun h31 => ?_)
    refine gg_st (go_iald sM_8 h31 d_X12_doStep_191 rfl) ?_
    refine gg_br (br_icmp_ge (tgt := 248) (pc' := 195) d_X12_doStep_192 (by decide) rfl) (fun h32 => ?_) (fun h32 => ?_)
    · refine gg_st (go_iconst d_X12_doStep_195 ci_0 rfl) ?_
      refine gg_st (go_istore 11 d_X12_doStep_196 (by decide) (L' := [some (.ref (0)), none, none, some (.int c3), none, none, none, none, some (.int c8), some (.int c9), some (.int v30), some (.int (0 : Int32)), none, none, none]) rfl rfl) ?_
      refine gg_bind 214 (fun (t36 : Int32) => [some (.ref (0)), none, none, some (.int c3), none, none, none, none, some (.int c8), some (.int c9), some (.int v30), some (.int t36), none, none, none]) (fun (t36 : Int32) => []) (fun (t36 : Int32) => g) (g_f_X12_doStep_L198 l w F c3 c8 c9 v30 g F (0 : Int32)) (fun t36 => ?_)
      refine gg_st (go_aload_n 0 d_X12_doStep_214 rfl rfl rfl) ?_
      refine gg_st (go_getR (j := 71) cf12 sM_0 rfl (by decide) fl_X12_143 d_X12_doStep_215 rfl) ?_
      refine gg_st (go_iload 10 d_X12_doStep_218 rfl rfl) ?_
      refine gg_st (go_iload 11 d_X12_doStep_220 rfl rfl) ?_
      refine gg_gd (fun h37 => ?_)
      refine gg_st (go_iast sM_42 h37 d_X12_doStep_222 rfl) ?_
      refine gg_som (fun s38 => ?_)
      refine gg_st (go_aload_n 0 d_X12_doStep_223 rfl rfl rfl) ?_
      refine gg_st (go_getR (j := 15) cf12 sM_0 rfl (by decide) fl_X12_49 d_X12_doStep_224 rfl) ?_
      refine gg_st (go_iload 11 d_X12_doStep_227 rfl rfl) ?_
      refine gg_st (go_aload_n 0 d_X12_doStep_229 rfl rfl rfl) ?_
      refine gg_st (go_getR (j := 12) cf12 sM_0 rfl (by decide) fl_X12_40 d_X12_doStep_230 rfl) ?_
      refine gg_st (go_bipush d_X12_doStep_233 cb_12 rfl) ?_
      refine gg_st (go_iload_n 3 d_X12_doStep_235 rfl rfl rfl) ?_
      refine gg_st (go_imul d_X12_doStep_236 rfl) ?_
      refine gg_st (go_iload 10 d_X12_doStep_237 rfl rfl) ?_
      refine gg_st (go_iadd d_X12_doStep_239 rfl) ?_
      refine gg_gd (fun h39 => ?_)
      refine gg_st (go_iald sM_9 h39 d_X12_doStep_240 rfl) ?_
      refine gg_gd (fun h40 => ?_)
      refine gg_st (go_iast sM_12 h40 d_X12_doStep_241 rfl) ?_
      refine gg_som (fun s41 => ?_)
      refine gg_st (go_iinc 10 d_X12_doStep_242 rfl (v := v30 + (1 : Int32)) (by rw [ci_1]) (by decide) (L' := [some (.ref (0)), none, none, some (.int c3), none, none, none, none, some (.int c8), some (.int c9), some (.int (v30 + (1 : Int32))), some (.int t36), none, none, none]) rfl rfl) ?_
      refine gg_st (go_goto (pc' := 184) d_X12_doStep_245 (by decide)) ?_
      refine gg_st (go_fg [some (.ref (0)), none, none, some (.int c3), none, none, none, none, some (.int c8), some (.int c9), some (.int (v30 + (1 : Int32))), none, none, none, none] ⟨rfl, ⟨rfl, ⟨rfl, ⟨rfl, ⟨rfl, trivial⟩⟩⟩⟩⟩) ?_
      exact ih (v30 + (1 : Int32)) s41
    · refine gg_st (go_fg [some (.ref (0)), none, none, some (.int c3), none, none, none, none, some (.int c8), some (.int c9), none, none, none, none, none] ⟨rfl, ⟨rfl, ⟨rfl, ⟨rfl, trivial⟩⟩⟩⟩) ?_
      exact gg_end rfl
set_option maxRecDepth 20000 in
theorem g_f_X12_doStep_L265 (l : Launch) (w : Wo) (F : Nat) (c3 : Int32) (c8 : Int32) (c9 : Int32) (c10 : Int32) : ∀ (n : Nat) (v46 : Int32) (g : St), GG l w shM m_X12_doStep 3 265 [some (.ref (0)), none, none, some (.int c3), none, none, none, none, some (.int c8), some (.int c9), some (.int c10), some (.int v46), none, none, none] [] g (f_X12_doStep_L265 F c3 c8 c9 c10 n v46 g) (fun (t : St) => .inl (370, [some (.ref (0)), none, none, some (.int c3), none, none, none, none, some (.int c8), some (.int c9), some (.int c10), none, none, none, none], [], t)) := by
  intro n
  induction n with
  | zero =>
    intro v46 g
    exact gg_none
  | succ n ih =>
    intro v46 g
    rw [f_X12_doStep_L265]
    refine gg_st (go_iload 11 d_X12_doStep_265 rfl rfl) ?_
    refine gg_st (go_aload_n 0 d_X12_doStep_267 rfl rfl rfl) ?_
    refine gg_st (go_getR (j := 5) cf12 sM_0 rfl (by decide) fl_X12_21 d_X12_doStep_268 rfl) ?_
    refine gg_st (go_aload_n 0 d_X12_doStep_271 rfl rfl rfl) ?_
    refine gg_st (go_getR (j := 12) cf12 sM_0 rfl (by decide) fl_X12_40 d_X12_doStep_272 rfl) ?_
    refine gg_st (go_bipush d_X12_doStep_275 cb_12 rfl) ?_
    refine gg_st (go_iload_n 3 d_X12_doStep_277 rfl rfl rfl) ?_
    refine gg_st (go_imul d_X12_doStep_278 rfl) ?_
    refine gg_st (go_iload 10 d_X12_doStep_279 rfl rfl) ?_
    refine gg_st (go_iadd d_X12_doStep_281 rfl) ?_
    refine gg_gd (fun h47 => ?_)
    refine gg_st (go_iald sM_9 h47 d_X12_doStep_282 rfl) ?_
    refine gg_gd (fun h48 => ?_)
    refine gg_st (go_iald sM_3 h48 d_X12_doStep_283 rfl) ?_
    refine gg_br (br_icmp_ge (tgt := 370) (pc' := 287) d_X12_doStep_284 (by decide) rfl) (fun h50 => ?_) (fun h50 => ?_)
    · refine gg_st (go_aload_n 0 d_X12_doStep_287 rfl rfl rfl) ?_
      refine gg_st (go_getR (j := 13) cf12 sM_0 rfl (by decide) fl_X12_43 d_X12_doStep_288 rfl) ?_
      refine gg_st (go_bipush d_X12_doStep_291 cb_70 rfl) ?_
      refine gg_st (go_iload_n 3 d_X12_doStep_293 rfl rfl rfl) ?_
      refine gg_st (go_imul d_X12_doStep_294 rfl) ?_
      refine gg_st (go_iconst d_X12_doStep_295 ci_5 rfl) ?_
      refine gg_st (go_iload 10 d_X12_doStep_296 rfl rfl) ?_
      refine gg_st (go_imul d_X12_doStep_298 rfl) ?_
      refine gg_st (go_iadd d_X12_doStep_299 rfl) ?_
      refine gg_st (go_iload 11 d_X12_doStep_300 rfl rfl) ?_
      refine gg_st (go_iadd d_X12_doStep_302 rfl) ?_
      refine gg_gd (fun h51 => ?_)
      refine gg_st (go_iald sM_10 h51 d_X12_doStep_303 rfl) ?_
      refine gg_nm (fun _ => [some (.ref (0)), none, none, some (.int c3), none, none, none, none, some (.int c8), some (.int c9), some (.int c10), some (.int v46), none, none, none]) (fun (x52 : Int32) => [.int x52]) (fun x52 => ?_)
      refine gg_st (go_istore 12 d_X12_doStep_304 (by decide) (L' := [some (.ref (0)), none, none, some (.int c3), none, none, none, none, some (.int c8), some (.int c9), some (.int c10), some (.int v46), some (.int x52), none, none]) rfl rfl) ?_
      refine gg_st (go_aload_n 0 d_X12_doStep_306 rfl rfl rfl) ?_
      refine gg_st (go_iconst d_X12_doStep_307 ci_5 rfl) ?_
      refine gg_st (go_iload 10 d_X12_doStep_308 rfl rfl) ?_
      refine gg_st (go_imul d_X12_doStep_310 rfl) ?_
      refine gg_st (go_iload 11 d_X12_doStep_311 rfl rfl) ?_
      refine gg_st (go_iadd d_X12_doStep_313 rfl) ?_
      refine gv_I (k_X12_fresh l w (((5 : Int32) * c10) + v46) g) cv_X12_412 sM_0 (Nat.le_of_ble_eq_true rfl) rfl rfl (Nat.le_of_ble_eq_true rfl) d_X12_doStep_314 rfl (fun x53 => ?_)
      refine gg_st (go_istore 13 d_X12_doStep_317 (by decide) (L' := [some (.ref (0)), none, none, some (.int c3), none, none, none, none, some (.int c8), some (.int c9), some (.int c10), some (.int v46), some (.int x52), some (.int x53), none]) rfl rfl) ?_
      refine gg_st (go_iload 12 d_X12_doStep_319 rfl rfl) ?_
      refine gg_st (go_bipush d_X12_doStep_321 cb_60 rfl) ?_
      refine gg_bind 345 (fun (t54 : Int32 × St) => [some (.ref (0)), none, none, some (.int c3), none, none, none, none, some (.int c8), some (.int c9), some (.int c10), some (.int v46), none, some (.int x53), none]) (fun (t54 : Int32 × St) => [.int t54.1]) (fun (t54 : Int32 × St) => t54.2) ?_ (fun t54 => ?_)
      · refine gg_br (br_icmp_ge (tgt := 335) (pc' := 326) d_X12_doStep_323 (by decide) rfl) (fun h55 => ?_) (fun h55 => ?_)
        · refine gg_st (go_aload_n 0 d_X12_doStep_326 rfl rfl rfl) ?_
          refine gg_st (go_iload 12 d_X12_doStep_327 rfl rfl) ?_
          refine gv_I (k_X12_fresh l w x52 g) cv_X12_412 sM_0 (Nat.le_of_ble_eq_true rfl) rfl rfl (Nat.le_of_ble_eq_true rfl) d_X12_doStep_329 rfl (fun x56 => ?_)
          refine gg_st (go_goto (pc' := 345) d_X12_doStep_332 (by decide)) ?_
          refine gg_st (go_fg [some (.ref (0)), none, none, some (.int c3), none, none, none, none, some (.int c8), some (.int c9), some (.int c10), some (.int v46), none, some (.int x53), none] ⟨rfl, ⟨rfl, ⟨rfl, ⟨rfl, ⟨rfl, ⟨rfl, ⟨rfl, trivial⟩⟩⟩⟩⟩⟩⟩) ?_
          exact gg_end rfl
        · refine gg_st (go_aload_n 0 d_X12_doStep_335 rfl rfl rfl) ?_
          refine gg_st (go_iload_n 3 d_X12_doStep_336 rfl rfl rfl) ?_
          refine gg_st (go_iload 12 d_X12_doStep_337 rfl rfl) ?_
          refine gg_st (go_bipush d_X12_doStep_339 cb_60 rfl) ?_
          refine gg_st (go_isub d_X12_doStep_341 rfl) ?_
          refine gv_IS (k_X12_outward l w F c3 (x52 - (60 : Int32)) g) cv_X12_418 sM_0 (Nat.le_of_ble_eq_true rfl) rfl rfl (Nat.le_of_ble_eq_true rfl) d_X12_doStep_342 rfl (fun x57 => ?_)
          refine gg_st (go_fg [some (.ref (0)), none, none, some (.int c3), none, none, none, none, some (.int c8), some (.int c9), some (.int c10), some (.int v46), none, some (.int x53), none] ⟨rfl, ⟨rfl, ⟨rfl, ⟨rfl, ⟨rfl, ⟨rfl, ⟨rfl, trivial⟩⟩⟩⟩⟩⟩⟩) ?_
          exact gg_end rfl
      · refine gg_st (go_istore 14 d_X12_doStep_345 (by decide) (L' := [some (.ref (0)), none, none, some (.int c3), none, none, none, none, some (.int c8), some (.int c9), some (.int c10), some (.int v46), none, some (.int x53), some (.int t54.1)]) rfl rfl) ?_
        refine gg_st (go_aload_n 0 d_X12_doStep_347 rfl rfl rfl) ?_
        refine gg_st (go_getR (j := 16) cf12 sM_0 rfl (by decide) fl_X12_52 d_X12_doStep_348 rfl) ?_
        refine gg_st (go_iload 13 d_X12_doStep_351 rfl rfl) ?_
        refine gg_st (go_iload 14 d_X12_doStep_353 rfl rfl) ?_
        refine gg_gd (fun h58 => ?_)
        refine gg_st (go_iast sM_13 h58 d_X12_doStep_355 rfl) ?_
        refine gg_som (fun s59 => ?_)
        refine gg_st (go_aload_n 0 d_X12_doStep_356 rfl rfl rfl) ?_
        refine gg_st (go_iload 14 d_X12_doStep_357 rfl rfl) ?_
        refine gg_st (go_iload 13 d_X12_doStep_359 rfl rfl) ?_
        refine gv_V (k_X12_wire l w t54.1 x53 s59) cv_X12_421 sM_0 (Nat.le_of_ble_eq_true rfl) rfl rfl (Nat.le_of_ble_eq_true rfl) d_X12_doStep_361 rfl (fun s60 => ?_)
        refine gg_st (go_iinc 11 d_X12_doStep_364 rfl (v := v46 + (1 : Int32)) (by rw [ci_1]) (by decide) (L' := [some (.ref (0)), none, none, some (.int c3), none, none, none, none, some (.int c8), some (.int c9), some (.int c10), some (.int (v46 + (1 : Int32))), none, some (.int x53), some (.int t54.1)]) rfl rfl) ?_
        refine gg_st (go_goto (pc' := 265) d_X12_doStep_367 (by decide)) ?_
        refine gg_st (go_fg [some (.ref (0)), none, none, some (.int c3), none, none, none, none, some (.int c8), some (.int c9), some (.int c10), some (.int (v46 + (1 : Int32))), none, none, none] ⟨rfl, ⟨rfl, ⟨rfl, ⟨rfl, ⟨rfl, ⟨rfl, trivial⟩⟩⟩⟩⟩⟩) ?_
        exact ih (v46 + (1 : Int32)) s60
    · refine gg_st (go_fg [some (.ref (0)), none, none, some (.int c3), none, none, none, none, some (.int c8), some (.int c9), some (.int c10), none, none, none, none] ⟨rfl, ⟨rfl, ⟨rfl, ⟨rfl, ⟨rfl, trivial⟩⟩⟩⟩⟩) ?_
      exact gg_end rfl
set_option maxRecDepth 20000 in
theorem g_f_X12_doStep_L251 (l : Launch) (w : Wo) (F : Nat) (c3 : Int32) (c8 : Int32) (c9 : Int32) : ∀ (n : Nat) (v43 : Int32) (g : St), GG l w shM m_X12_doStep 3 251 [some (.ref (0)), none, none, some (.int c3), none, none, none, none, some (.int c8), some (.int c9), some (.int v43), none, none, none, none] [] g (f_X12_doStep_L251 F c3 c8 c9 n v43 g) (fun (t : St) => .inl (376, [some (.ref (0)), none, none, some (.int c3), none, none, none, none, some (.int c8), some (.int c9), none, none, none, none, none], [], t)) := by
  intro n
  induction n with
  | zero =>
    intro v43 g
    exact gg_none
  | succ n ih =>
    intro v43 g
    rw [f_X12_doStep_L251]
    refine gg_st (go_iload 10 d_X12_doStep_251 rfl rfl) ?_
    refine gg_st (go_aload_n 0 d_X12_doStep_253 rfl rfl rfl) ?_
    refine gg_st (go_getR (j := 11) cf12 sM_0 rfl (by decide) fl_X12_37 d_X12_doStep_254 rfl) ?_
    refine gg_st (go_iload_n 3 d_X12_doStep_257 rfl rfl rfl) ?_
    refine gg_gd (fun h44 => ?_)
    refine gg_st (go_iald sM_8 h44 d_X12_doStep_258 rfl) ?_
    refine gg_br (br_icmp_ge (tgt := 376) (pc' := 262) d_X12_doStep_259 (by decide) rfl) (fun h45 => ?_) (fun h45 => ?_)
    · refine gg_st (go_iconst d_X12_doStep_262 ci_0 rfl) ?_
      refine gg_st (go_istore 11 d_X12_doStep_263 (by decide) (L' := [some (.ref (0)), none, none, some (.int c3), none, none, none, none, some (.int c8), some (.int c9), some (.int v43), some (.int (0 : Int32)), none, none, none]) rfl rfl) ?_
      refine gg_bind 370 (fun (t61 : St) => [some (.ref (0)), none, none, some (.int c3), none, none, none, none, some (.int c8), some (.int c9), some (.int v43), none, none, none, none]) (fun (t61 : St) => []) (fun (t61 : St) => t61) (g_f_X12_doStep_L265 l w F c3 c8 c9 v43 F (0 : Int32) g) (fun t61 => ?_)
      refine gg_st (go_iinc 10 d_X12_doStep_370 rfl (v := v43 + (1 : Int32)) (by rw [ci_1]) (by decide) (L' := [some (.ref (0)), none, none, some (.int c3), none, none, none, none, some (.int c8), some (.int c9), some (.int (v43 + (1 : Int32))), none, none, none, none]) rfl rfl) ?_
      refine gg_st (go_goto (pc' := 251) d_X12_doStep_373 (by decide)) ?_
      exact ih (v43 + (1 : Int32)) t61
    · refine gg_st (go_fg [some (.ref (0)), none, none, some (.int c3), none, none, none, none, some (.int c8), some (.int c9), none, none, none, none, none] ⟨rfl, ⟨rfl, ⟨rfl, ⟨rfl, trivial⟩⟩⟩⟩) ?_
      exact gg_end rfl
set_option maxRecDepth 20000 in
theorem g_f_X12_doStep_L379 (l : Launch) (w : Wo) (F : Nat) (c3 : Int32) (c8 : Int32) (c9 : Int32) : ∀ (n : Nat) (v63 : Int32) (g : St), GG l w shM m_X12_doStep 3 379 [some (.ref (0)), none, none, some (.int c3), none, none, none, none, some (.int c8), some (.int c9), some (.int v63), none, none, none, none] [] g (f_X12_doStep_L379 F c3 c8 c9 n v63 g) (fun (t : St) => .inl (506, [some (.ref (0)), none, none, some (.int c3), none, none, none, none, some (.int c8), some (.int c9), none, none, none, none, none], [], t)) := by
  intro n
  induction n with
  | zero =>
    intro v63 g
    exact gg_none
  | succ n ih =>
    intro v63 g
    rw [f_X12_doStep_L379]
    refine gg_st (go_iload 10 d_X12_doStep_379 rfl rfl) ?_
    refine gg_st (go_bipush d_X12_doStep_381 cb_10 rfl) ?_
    refine gg_br (br_icmp_ge (tgt := 506) (pc' := 386) d_X12_doStep_383 (by decide) rfl) (fun h64 => ?_) (fun h64 => ?_)
    · refine gg_st (go_iload 10 d_X12_doStep_386 rfl rfl) ?_
      refine gg_st (go_iconst d_X12_doStep_388 ci_5 rfl) ?_
      refine gg_st (go_irem d_X12_doStep_389 (by decide) rfl) ?_
      refine gg_bind 418 (fun (t65 : Int32) => [some (.ref (0)), none, none, some (.int c3), none, none, none, none, some (.int c8), some (.int c9), some (.int v63), none, none, none, none]) (fun (t65 : Int32) => [.int t65]) (fun (t65 : Int32) => g) ?_ (fun t65 => ?_)
      · refine gg_jp 417 (fun (t66 : Unit) => [some (.ref (0)), none, none, some (.int c3), none, none, none, none, some (.int c8), some (.int c9), some (.int v63), none, none, none, none]) (fun (t66 : Unit) => []) (fun (t66 : Unit) => g) (fun t66 => ?_) (fun jp67 hjp67 => ?_)
        · refine gg_st (go_iconst d_X12_doStep_417 ci_0 rfl) ?_
          exact gg_end rfl
        refine gg_br (br_if_le (tgt := 417) (pc' := 393) d_X12_doStep_390 (by decide) rfl) (fun h68 => ?_) (fun h68 => ?_)
        · refine gg_st (go_iload 10 d_X12_doStep_393 rfl rfl) ?_
          refine gg_st (go_iconst d_X12_doStep_395 ci_5 rfl) ?_
          refine gg_st (go_irem d_X12_doStep_396 (by decide) rfl) ?_
          refine gg_st (go_iload 10 d_X12_doStep_397 rfl rfl) ?_
          refine gg_st (go_iconst d_X12_doStep_399 ci_5 rfl) ?_
          refine gg_bind 410 (fun (t69 : Int32) => [some (.ref (0)), none, none, some (.int c3), none, none, none, none, some (.int c8), some (.int c9), some (.int v63), none, none, none, none]) (fun (t69 : Int32) => [.int t69, .int (v63 - v63 / (5 : Int32) * (5 : Int32))]) (fun (t69 : Int32) => g) ?_ (fun t69 => ?_)
          · refine gg_br (br_icmp_ge (tgt := 408) (pc' := 403) d_X12_doStep_400 (by decide) rfl) (fun h70 => ?_) (fun h70 => ?_)
            · refine gg_st (go_iload 8 d_X12_doStep_403 rfl rfl) ?_
              refine gg_st (go_goto (pc' := 410) d_X12_doStep_405 (by decide)) ?_
              exact gg_end rfl
            · refine gg_st (go_iload 9 d_X12_doStep_408 rfl rfl) ?_
              exact gg_end rfl
          · refine gg_br (br_icmp_ge (tgt := 417) (pc' := 413) d_X12_doStep_410 (by decide) rfl) (fun h71 => ?_) (fun h71 => ?_)
            · refine gg_st (go_iconst d_X12_doStep_413 ci_1 rfl) ?_
              refine gg_st (go_goto (pc' := 418) d_X12_doStep_414 (by decide)) ?_
              exact gg_end rfl
            · exact hjp67 ()
        · exact hjp67 ()
      · refine gg_st (go_istore 11 d_X12_doStep_418 (by decide) (L' := [some (.ref (0)), none, none, some (.int c3), none, none, none, none, some (.int c8), some (.int c9), some (.int v63), some (.int t65), none, none, none]) rfl rfl) ?_
        refine gg_st (go_iload 11 d_X12_doStep_420 rfl rfl) ?_
        refine gg_bind 500 (fun (t72 : St) => [some (.ref (0)), none, none, some (.int c3), none, none, none, none, some (.int c8), some (.int c9), some (.int v63), none, none, none, none]) (fun (t72 : St) => []) (fun (t72 : St) => t72) ?_ (fun t72 => ?_)
        · refine gg_br (br_if_eq (tgt := 500) (pc' := 425) d_X12_doStep_422 (by decide) rfl) (fun h74 => ?_) (fun h74 => ?_)
          · refine gg_st (go_fg [some (.ref (0)), none, none, some (.int c3), none, none, none, none, some (.int c8), some (.int c9), some (.int v63), none, none, none, none] ⟨rfl, ⟨rfl, ⟨rfl, ⟨rfl, ⟨rfl, trivial⟩⟩⟩⟩⟩) ?_
            exact gg_end rfl
          · refine gg_st (go_aload_n 0 d_X12_doStep_425 rfl rfl rfl) ?_
            refine gg_st (go_getR (j := 69) cf12 sM_0 rfl (by decide) fl_X12_137 d_X12_doStep_426 rfl) ?_
            refine gg_st (go_iload 10 d_X12_doStep_429 rfl rfl) ?_
            refine gg_gd (fun h75 => ?_)
            refine gg_st (go_iald sM_40 h75 d_X12_doStep_431 rfl) ?_
            refine gg_st (go_sipush d_X12_doStep_432 cs_10000 rfl) ?_
            refine gg_br (br_icmp_ge (tgt := 500) (pc' := 438) d_X12_doStep_435 (by decide) rfl) (fun h77 => ?_) (fun h77 => ?_)
            · refine gg_st (go_aload_n 0 d_X12_doStep_438 rfl rfl rfl) ?_
              refine gg_st (go_getR (j := 13) cf12 sM_0 rfl (by decide) fl_X12_43 d_X12_doStep_439 rfl) ?_
              refine gg_st (go_bipush d_X12_doStep_442 cb_70 rfl) ?_
              refine gg_st (go_iload_n 3 d_X12_doStep_444 rfl rfl rfl) ?_
              refine gg_st (go_imul d_X12_doStep_445 rfl) ?_
              refine gg_st (go_bipush d_X12_doStep_446 cb_60 rfl) ?_
              refine gg_st (go_iadd d_X12_doStep_448 rfl) ?_
              refine gg_st (go_iload 10 d_X12_doStep_449 rfl rfl) ?_
              refine gg_st (go_iadd d_X12_doStep_451 rfl) ?_
              refine gg_gd (fun h78 => ?_)
              refine gg_st (go_iald sM_10 h78 d_X12_doStep_452 rfl) ?_
              refine gg_st (go_bipush d_X12_doStep_453 cb_60 rfl) ?_
              refine gg_br (br_icmp_lt (tgt := 500) (pc' := 458) d_X12_doStep_455 (by decide) rfl) (fun h81 => ?_) (fun h81 => ?_)
              · refine gg_st (go_aload_n 0 d_X12_doStep_458 rfl rfl rfl) ?_
                refine gg_st (go_getR (j := 70) cf12 sM_0 rfl (by decide) fl_X12_140 d_X12_doStep_459 rfl) ?_
                refine gg_st (go_iload 10 d_X12_doStep_462 rfl rfl) ?_
                refine gg_st (go_iconst d_X12_doStep_464 ci_1 rfl) ?_
                refine gg_gd (fun h82 => ?_)
                refine gg_st (go_zast (Or.inr rfl) sM_41 h82 d_X12_doStep_465 rfl) ?_
                refine gg_som (fun s83 => ?_)
                refine gg_st (go_aload_n 0 d_X12_doStep_466 rfl rfl rfl) ?_
                refine gg_st (go_aload_n 0 d_X12_doStep_467 rfl rfl rfl) ?_
                refine gg_st (go_getR (j := 69) cf12 sM_0 rfl (by decide) fl_X12_137 d_X12_doStep_468 rfl) ?_
                refine gg_st (go_iload 10 d_X12_doStep_471 rfl rfl) ?_
                refine gg_gd (fun h84 => ?_)
                refine gg_st (go_iald sM_40 h84 d_X12_doStep_473 rfl) ?_
                refine gg_st (go_aload_n 0 d_X12_doStep_474 rfl rfl rfl) ?_
                refine gg_st (go_iload_n 3 d_X12_doStep_475 rfl rfl rfl) ?_
                refine gg_st (go_aload_n 0 d_X12_doStep_476 rfl rfl rfl) ?_
                refine gg_st (go_getR (j := 13) cf12 sM_0 rfl (by decide) fl_X12_43 d_X12_doStep_477 rfl) ?_
                refine gg_st (go_bipush d_X12_doStep_480 cb_70 rfl) ?_
                refine gg_st (go_iload_n 3 d_X12_doStep_482 rfl rfl rfl) ?_
                refine gg_st (go_imul d_X12_doStep_483 rfl) ?_
                refine gg_st (go_bipush d_X12_doStep_484 cb_60 rfl) ?_
                refine gg_st (go_iadd d_X12_doStep_486 rfl) ?_
                refine gg_st (go_iload 10 d_X12_doStep_487 rfl rfl) ?_
                refine gg_st (go_iadd d_X12_doStep_489 rfl) ?_
                refine gg_gd (fun h85 => ?_)
                refine gg_st (go_iald sM_10 h85 d_X12_doStep_490 rfl) ?_
                refine gg_st (go_bipush d_X12_doStep_491 cb_60 rfl) ?_
                refine gg_st (go_isub d_X12_doStep_493 rfl) ?_
                refine gv_IS (k_X12_outward l w F c3 ((s83.1 (10) (ix ((((70 : Int32) * c3) + (60 : Int32)) + v63))) - (60 : Int32)) s83) cv_X12_418 sM_0 (Nat.le_of_ble_eq_true rfl) rfl rfl (Nat.le_of_ble_eq_true rfl) d_X12_doStep_494 rfl (fun x86 => ?_)
                refine gv_V (k_X12_wire l w (s83.1 (40) (ix v63)) x86.1 x86.2) cv_X12_421 sM_0 (Nat.le_of_ble_eq_true rfl) rfl rfl (Nat.le_of_ble_eq_true rfl) d_X12_doStep_497 rfl (fun s87 => ?_)
                refine gg_st (go_fg [some (.ref (0)), none, none, some (.int c3), none, none, none, none, some (.int c8), some (.int c9), some (.int v63), none, none, none, none] ⟨rfl, ⟨rfl, ⟨rfl, ⟨rfl, ⟨rfl, trivial⟩⟩⟩⟩⟩) ?_
                exact gg_end rfl
              · refine gg_st (go_fg [some (.ref (0)), none, none, some (.int c3), none, none, none, none, some (.int c8), some (.int c9), some (.int v63), none, none, none, none] ⟨rfl, ⟨rfl, ⟨rfl, ⟨rfl, ⟨rfl, trivial⟩⟩⟩⟩⟩) ?_
                exact gg_end rfl
            · refine gg_st (go_fg [some (.ref (0)), none, none, some (.int c3), none, none, none, none, some (.int c8), some (.int c9), some (.int v63), none, none, none, none] ⟨rfl, ⟨rfl, ⟨rfl, ⟨rfl, ⟨rfl, trivial⟩⟩⟩⟩⟩) ?_
              exact gg_end rfl
        · refine gg_st (go_iinc 10 d_X12_doStep_500 rfl (v := v63 + (1 : Int32)) (by rw [ci_1]) (by decide) (L' := [some (.ref (0)), none, none, some (.int c3), none, none, none, none, some (.int c8), some (.int c9), some (.int (v63 + (1 : Int32))), none, none, none, none]) rfl rfl) ?_
          refine gg_st (go_goto (pc' := 379) d_X12_doStep_503 (by decide)) ?_
          exact ih (v63 + (1 : Int32)) t72
    · refine gg_st (go_fg [some (.ref (0)), none, none, some (.int c3), none, none, none, none, some (.int c8), some (.int c9), none, none, none, none, none] ⟨rfl, ⟨rfl, ⟨rfl, ⟨rfl, trivial⟩⟩⟩⟩) ?_
      exact gg_end rfl
set_option maxRecDepth 20000 in
theorem g_f_X12_doStep_L524 (l : Launch) (w : Wo) (F : Nat) (c3 : Int32) (c8 : Int32) (c9 : Int32) : ∀ (n : Nat) (v91 : Int32) (g : St), GG l w shM m_X12_doStep 3 524 [some (.ref (0)), none, none, some (.int c3), none, none, none, none, some (.int c8), some (.int c9), some (.int v91), none, none, none, none] [] g (f_X12_doStep_L524 F c3 c8 c9 n v91 g) (fun (t : St) => .inl (623, [some (.ref (0)), none, none, none, none, none, none, none, none, none, none, none, none, none, none], [], t)) := by
  intro n
  induction n with
  | zero =>
    intro v91 g
    exact gg_none
  | succ n ih =>
    intro v91 g
    rw [f_X12_doStep_L524]
    refine gg_st (go_iload 10 d_X12_doStep_524 rfl rfl) ?_
    refine gg_st (go_bipush d_X12_doStep_526 cb_10 rfl) ?_
    refine gg_br (br_icmp_ge (tgt := 623) (pc' := 531) d_X12_doStep_528 (by decide) rfl) (fun h92 => ?_) (fun h92 => ?_)
    · refine gg_st (go_iload 10 d_X12_doStep_531 rfl rfl) ?_
      refine gg_st (go_iconst d_X12_doStep_533 ci_5 rfl) ?_
      refine gg_st (go_irem d_X12_doStep_534 (by decide) rfl) ?_
      refine gg_bind 563 (fun (t93 : Int32) => [some (.ref (0)), none, none, some (.int c3), none, none, none, none, some (.int c8), some (.int c9), some (.int v91), none, none, none, none]) (fun (t93 : Int32) => [.int t93]) (fun (t93 : Int32) => g) ?_ (fun t93 => ?_)
      · refine gg_jp 562 (fun (t94 : Unit) => [some (.ref (0)), none, none, some (.int c3), none, none, none, none, some (.int c8), some (.int c9), some (.int v91), none, none, none, none]) (fun (t94 : Unit) => []) (fun (t94 : Unit) => g) (fun t94 => ?_) (fun jp95 hjp95 => ?_)
        · refine gg_st (go_iconst d_X12_doStep_562 ci_0 rfl) ?_
          exact gg_end rfl
        refine gg_br (br_if_le (tgt := 562) (pc' := 538) d_X12_doStep_535 (by decide) rfl) (fun h96 => ?_) (fun h96 => ?_)
        · refine gg_st (go_iload 10 d_X12_doStep_538 rfl rfl) ?_
          refine gg_st (go_iconst d_X12_doStep_540 ci_5 rfl) ?_
          refine gg_st (go_irem d_X12_doStep_541 (by decide) rfl) ?_
          refine gg_st (go_iload 10 d_X12_doStep_542 rfl rfl) ?_
          refine gg_st (go_iconst d_X12_doStep_544 ci_5 rfl) ?_
          refine gg_bind 555 (fun (t97 : Int32) => [some (.ref (0)), none, none, some (.int c3), none, none, none, none, some (.int c8), some (.int c9), some (.int v91), none, none, none, none]) (fun (t97 : Int32) => [.int t97, .int (v91 - v91 / (5 : Int32) * (5 : Int32))]) (fun (t97 : Int32) => g) ?_ (fun t97 => ?_)
          · refine gg_br (br_icmp_ge (tgt := 553) (pc' := 548) d_X12_doStep_545 (by decide) rfl) (fun h98 => ?_) (fun h98 => ?_)
            · refine gg_st (go_iload 8 d_X12_doStep_548 rfl rfl) ?_
              refine gg_st (go_goto (pc' := 555) d_X12_doStep_550 (by decide)) ?_
              exact gg_end rfl
            · refine gg_st (go_iload 9 d_X12_doStep_553 rfl rfl) ?_
              exact gg_end rfl
          · refine gg_br (br_icmp_ge (tgt := 562) (pc' := 558) d_X12_doStep_555 (by decide) rfl) (fun h99 => ?_) (fun h99 => ?_)
            · refine gg_st (go_iconst d_X12_doStep_558 ci_1 rfl) ?_
              refine gg_st (go_goto (pc' := 563) d_X12_doStep_559 (by decide)) ?_
              exact gg_end rfl
            · exact hjp95 ()
        · exact hjp95 ()
      · refine gg_st (go_istore 11 d_X12_doStep_563 (by decide) (L' := [some (.ref (0)), none, none, some (.int c3), none, none, none, none, some (.int c8), some (.int c9), some (.int v91), some (.int t93), none, none, none]) rfl rfl) ?_
        refine gg_st (go_iload 11 d_X12_doStep_565 rfl rfl) ?_
        refine gg_bind 617 (fun (t100 : St) => [some (.ref (0)), none, none, some (.int c3), none, none, none, none, some (.int c8), some (.int c9), some (.int v91), none, none, none, none]) (fun (t100 : St) => []) (fun (t100 : St) => t100) ?_ (fun t100 => ?_)
        · refine gg_br (br_if_eq (tgt := 617) (pc' := 570) d_X12_doStep_567 (by decide) rfl) (fun h102 => ?_) (fun h102 => ?_)
          · refine gg_st (go_fg [some (.ref (0)), none, none, some (.int c3), none, none, none, none, some (.int c8), some (.int c9), some (.int v91), none, none, none, none] ⟨rfl, ⟨rfl, ⟨rfl, ⟨rfl, ⟨rfl, trivial⟩⟩⟩⟩⟩) ?_
            exact gg_end rfl
          · refine gg_st (go_aload_n 0 d_X12_doStep_570 rfl rfl rfl) ?_
            refine gg_st (go_getR (j := 70) cf12 sM_0 rfl (by decide) fl_X12_140 d_X12_doStep_571 rfl) ?_
            refine gg_st (go_iload 10 d_X12_doStep_574 rfl rfl) ?_
            refine gg_gd (fun h103 => ?_)
            refine gg_st (go_zald sM_41 h103 d_X12_doStep_576 rfl) ?_
            refine gg_br (br_if_ne (tgt := 617) (pc' := 580) d_X12_doStep_577 (by decide) rfl) (fun h105 => ?_) (fun h105 => ?_)
            · refine gg_st (go_aload_n 0 d_X12_doStep_580 rfl rfl rfl) ?_
              refine gg_st (go_getR (j := 69) cf12 sM_0 rfl (by decide) fl_X12_137 d_X12_doStep_581 rfl) ?_
              refine gg_st (go_iload 10 d_X12_doStep_584 rfl rfl) ?_
              refine gg_gd (fun h106 => ?_)
              refine gg_st (go_iald sM_40 h106 d_X12_doStep_586 rfl) ?_
              refine gg_st (go_sipush d_X12_doStep_587 cs_10000 rfl) ?_
              refine gg_br (br_icmp_lt (tgt := 617) (pc' := 593) d_X12_doStep_590 (by decide) rfl) (fun h107 => ?_) (fun h107 => ?_)
              · refine gg_st (go_aload_n 0 d_X12_doStep_593 rfl rfl rfl) ?_
                refine gg_st (go_dup d_X12_doStep_594 rfl rfl) ?_
                refine gg_st (go_getI (j := 19) cf12 sM_0 rfl (by decide) fl_X12_185 d_X12_doStep_595 rfl) ?_
                refine gg_st (go_aload_n 0 d_X12_doStep_598 rfl rfl rfl) ?_
                refine gg_st (go_iload_n 3 d_X12_doStep_599 rfl rfl rfl) ?_
                refine gg_st (go_iload 10 d_X12_doStep_600 rfl rfl) ?_
                refine gv_IS (k_X12_goRound l w F c3 v91 g) cv_X12_424 sM_0 (Nat.le_of_ble_eq_true rfl) rfl rfl (Nat.le_of_ble_eq_true rfl) d_X12_doStep_602 rfl (fun x108 => ?_)
                refine gg_bind 613 (fun (t109 : Int32) => [some (.ref (0)), none, none, some (.int c3), none, none, none, none, some (.int c8), some (.int c9), some (.int v91), none, none, none, none]) (fun (t109 : Int32) => [.int t109, .int (g.1 (0) 19), .ref (0)]) (fun (t109 : Int32) => x108.2) ?_ (fun t109 => ?_)
                · refine gg_br (br_if_eq (tgt := 612) (pc' := 608) d_X12_doStep_605 (by decide) rfl) (fun h110 => ?_) (fun h110 => ?_)
                  · refine gg_st (go_iconst d_X12_doStep_612 ci_0 rfl) ?_
                    refine gg_st (go_fg [some (.ref (0)), none, none, some (.int c3), none, none, none, none, some (.int c8), some (.int c9), some (.int v91), none, none, none, none] ⟨rfl, ⟨rfl, ⟨rfl, ⟨rfl, ⟨rfl, trivial⟩⟩⟩⟩⟩) ?_
                    exact gg_end rfl
                  · refine gg_st (go_iconst d_X12_doStep_608 ci_1 rfl) ?_
                    refine gg_st (go_goto (pc' := 613) d_X12_doStep_609 (by decide)) ?_
                    refine gg_st (go_fg [some (.ref (0)), none, none, some (.int c3), none, none, none, none, some (.int c8), some (.int c9), some (.int v91), none, none, none, none] ⟨rfl, ⟨rfl, ⟨rfl, ⟨rfl, ⟨rfl, trivial⟩⟩⟩⟩⟩) ?_
                    exact gg_end rfl
                · refine gg_st (go_iadd d_X12_doStep_613 rfl) ?_
                  refine gg_st (go_putI (j := 19) cf12 sM_0 rfl (by decide) rfl rfl fl_X12_185 d_X12_doStep_614 rfl) ?_
                  refine gg_som (fun s111 => ?_)
                  exact gg_end rfl
              · refine gg_st (go_fg [some (.ref (0)), none, none, some (.int c3), none, none, none, none, some (.int c8), some (.int c9), some (.int v91), none, none, none, none] ⟨rfl, ⟨rfl, ⟨rfl, ⟨rfl, ⟨rfl, trivial⟩⟩⟩⟩⟩) ?_
                exact gg_end rfl
            · refine gg_st (go_fg [some (.ref (0)), none, none, some (.int c3), none, none, none, none, some (.int c8), some (.int c9), some (.int v91), none, none, none, none] ⟨rfl, ⟨rfl, ⟨rfl, ⟨rfl, ⟨rfl, trivial⟩⟩⟩⟩⟩) ?_
              exact gg_end rfl
        · refine gg_st (go_iinc 10 d_X12_doStep_617 rfl (v := v91 + (1 : Int32)) (by rw [ci_1]) (by decide) (L' := [some (.ref (0)), none, none, some (.int c3), none, none, none, none, some (.int c8), some (.int c9), some (.int (v91 + (1 : Int32))), none, none, none, none]) rfl rfl) ?_
          refine gg_st (go_goto (pc' := 524) d_X12_doStep_620 (by decide)) ?_
          exact ih (v91 + (1 : Int32)) t100
    · refine gg_st (go_fg [some (.ref (0)), none, none, none, none, none, none, none, none, none, none, none, none, none, none] ⟨rfl, trivial⟩) ?_
      exact gg_end rfl
set_option maxRecDepth 20000 in
theorem k_X12_doStep (l : Launch) (w : Wo) (F : Nat) (p1 : Int32) (p2 : Int32) (σ : St) : K l w shM m_X12_doStep 3 [.ref (0), .int p1, .int p2] σ (f_X12_doStep F p1 p2 σ) (rIS) := by
  refine k_of (L := [some (.ref (0)), some (.int p1), some (.int p2), none, none, none, none, none, none, none, none, none, none, none, none]) (plainFor_of_name (by decide +kernel)) 12 rfl (Nat.le_of_ble_eq_true rfl) ?_
  unfold f_X12_doStep
  refine gg_st (go_aload_n 0 d_X12_doStep_0 rfl rfl rfl) ?_
  refine gg_st (go_iload_n 1 d_X12_doStep_1 rfl rfl rfl) ?_
  refine gg_st (go_iload_n 2 d_X12_doStep_2 rfl rfl rfl) ?_
  refine gv_I (k_X12_ruleFor l w p1 p2 σ) cv_X12_377 sM_0 (Nat.le_of_ble_eq_true rfl) rfl rfl (Nat.le_of_ble_eq_true rfl) d_X12_doStep_3 rfl (fun x1 => ?_)
  refine gg_st (go_istore_n 3 d_X12_doStep_6 rfl (by decide) (L' := [some (.ref (0)), some (.int p1), some (.int p2), some (.int x1), none, none, none, none, none, none, none, none, none, none, none]) rfl rfl) ?_
  refine gg_st (go_aload_n 0 d_X12_doStep_7 rfl rfl rfl) ?_
  refine gv_I (k_X12_agentMany l w F  σ) cv_X12_388 sM_0 (Nat.le_of_ble_eq_true rfl) rfl rfl (Nat.le_of_ble_eq_true rfl) d_X12_doStep_8 rfl (fun x2 => ?_)
  refine gg_st (go_iconst d_X12_doStep_11 ci_2 rfl) ?_
  refine gg_st (go_isub d_X12_doStep_12 rfl) ?_
  refine gg_st (go_aload_n 0 d_X12_doStep_13 rfl rfl rfl) ?_
  refine gg_st (go_getR (j := 11) cf12 sM_0 rfl (by decide) fl_X12_37 d_X12_doStep_14 rfl) ?_
  refine gg_st (go_iload_n 3 d_X12_doStep_17 rfl rfl rfl) ?_
  refine gg_gd (fun h3 => ?_)
  refine gg_st (go_iald sM_8 h3 d_X12_doStep_18 rfl) ?_
  refine gg_st (go_iadd d_X12_doStep_19 rfl) ?_
  refine gg_st (go_sipush d_X12_doStep_20 cs_400 rfl) ?_
  refine gg_br (br_icmp_le (tgt := 28) (pc' := 26) d_X12_doStep_23 (by decide) rfl) (fun h4 => ?_) (fun h4 => ?_)
  · refine gg_st (go_iconst d_X12_doStep_26 ci_0 rfl) ?_
    exact gg_zret (Or.inl rfl) rfl d_X12_doStep_27 rfl
  · refine gg_st (go_iload_n 1 d_X12_doStep_28 rfl rfl rfl) ?_
    refine gg_st (go_iload_n 2 d_X12_doStep_29 rfl rfl rfl) ?_
    refine gg_bind 38 (fun (t5 : Int32) => [some (.ref (0)), some (.int p1), some (.int p2), some (.int x1), none, none, none, none, none, none, none, none, none, none, none]) (fun (t5 : Int32) => [.int t5]) (fun (t5 : Int32) => σ) ?_ (fun t5 => ?_)
    · refine gg_br (br_icmp_ge (tgt := 37) (pc' := 33) d_X12_doStep_30 (by decide) rfl) (fun h6 => ?_) (fun h6 => ?_)
      · refine gg_st (go_iload_n 1 d_X12_doStep_33 rfl rfl rfl) ?_
        refine gg_st (go_goto (pc' := 38) d_X12_doStep_34 (by decide)) ?_
        exact gg_end rfl
      · refine gg_st (go_iload_n 2 d_X12_doStep_37 rfl rfl rfl) ?_
        exact gg_end rfl
    · refine gg_st (go_istore 4 d_X12_doStep_38 (by decide) (L' := [some (.ref (0)), some (.int p1), some (.int p2), some (.int x1), some (.int t5), none, none, none, none, none, none, none, none, none, none]) rfl rfl) ?_
      refine gg_st (go_iload_n 1 d_X12_doStep_40 rfl rfl rfl) ?_
      refine gg_st (go_iload_n 2 d_X12_doStep_41 rfl rfl rfl) ?_
      refine gg_bind 50 (fun (t7 : Int32) => [some (.ref (0)), none, none, some (.int x1), some (.int t5), none, none, none, none, none, none, none, none, none, none]) (fun (t7 : Int32) => [.int t7]) (fun (t7 : Int32) => σ) ?_ (fun t7 => ?_)
      · refine gg_br (br_icmp_ge (tgt := 49) (pc' := 45) d_X12_doStep_42 (by decide) rfl) (fun h8 => ?_) (fun h8 => ?_)
        · refine gg_st (go_iload_n 2 d_X12_doStep_45 rfl rfl rfl) ?_
          refine gg_st (go_goto (pc' := 50) d_X12_doStep_46 (by decide)) ?_
          refine gg_st (go_fg [some (.ref (0)), none, none, some (.int x1), some (.int t5), none, none, none, none, none, none, none, none, none, none] ⟨rfl, ⟨rfl, ⟨rfl, trivial⟩⟩⟩) ?_
          exact gg_end rfl
        · refine gg_st (go_iload_n 1 d_X12_doStep_49 rfl rfl rfl) ?_
          refine gg_st (go_fg [some (.ref (0)), none, none, some (.int x1), some (.int t5), none, none, none, none, none, none, none, none, none, none] ⟨rfl, ⟨rfl, ⟨rfl, trivial⟩⟩⟩) ?_
          exact gg_end rfl
      · refine gg_st (go_istore 5 d_X12_doStep_50 (by decide) (L' := [some (.ref (0)), none, none, some (.int x1), some (.int t5), some (.int t7), none, none, none, none, none, none, none, none, none]) rfl rfl) ?_
        refine gg_st (go_aload_n 0 d_X12_doStep_52 rfl rfl rfl) ?_
        refine gg_st (go_getR (j := 25) cf12 sM_0 rfl (by decide) fl_X12_62 d_X12_doStep_53 rfl) ?_
        refine gg_st (go_aload_n 0 d_X12_doStep_56 rfl rfl rfl) ?_
        refine gg_st (go_getI (j := 26) cf12 sM_0 rfl (by decide) fl_X12_369 d_X12_doStep_57 rfl) ?_
        refine gg_st (go_bipush d_X12_doStep_60 cb_50 rfl) ?_
        refine gg_st (go_irem d_X12_doStep_62 (by decide) rfl) ?_
        refine gg_st (go_bipush d_X12_doStep_63 cb_16 rfl) ?_
        refine gg_st (go_aload_n 0 d_X12_doStep_65 rfl rfl rfl) ?_
        refine gg_st (go_getR (j := 15) cf12 sM_0 rfl (by decide) fl_X12_49 d_X12_doStep_66 rfl) ?_
        refine gg_st (go_iload 4 d_X12_doStep_69 rfl rfl) ?_
        refine gg_gd (fun h9 => ?_)
        refine gg_st (go_iald sM_12 h9 d_X12_doStep_71 rfl) ?_
        refine gg_st (go_imul d_X12_doStep_72 rfl) ?_
        refine gg_st (go_aload_n 0 d_X12_doStep_73 rfl rfl rfl) ?_
        refine gg_st (go_getR (j := 15) cf12 sM_0 rfl (by decide) fl_X12_49 d_X12_doStep_74 rfl) ?_
        refine gg_st (go_iload 5 d_X12_doStep_77 rfl rfl) ?_
        refine gg_gd (fun h10 => ?_)
        refine gg_st (go_iald sM_12 h10 d_X12_doStep_79 rfl) ?_
        refine gg_st (go_iadd d_X12_doStep_80 rfl) ?_
        refine gg_gd (fun h11 => ?_)
        refine gg_st (go_iast sM_15 h11 d_X12_doStep_81 rfl) ?_
        refine gg_som (fun s12 => ?_)
        refine gg_st (go_aload_n 0 d_X12_doStep_82 rfl rfl rfl) ?_
        refine gg_st (go_dup d_X12_doStep_83 rfl rfl) ?_
        refine gg_st (go_getI (j := 26) cf12 sM_0 rfl (by decide) fl_X12_369 d_X12_doStep_84 rfl) ?_
        refine gg_st (go_iconst d_X12_doStep_87 ci_1 rfl) ?_
        refine gg_st (go_iadd d_X12_doStep_88 rfl) ?_
        refine gg_st (go_putI (j := 26) cf12 sM_0 rfl (by decide) rfl rfl fl_X12_369 d_X12_doStep_89 rfl) ?_
        refine gg_som (fun s13 => ?_)
        refine gg_st (go_aload_n 0 d_X12_doStep_92 rfl rfl rfl) ?_
        refine gg_st (go_getR (j := 15) cf12 sM_0 rfl (by decide) fl_X12_49 d_X12_doStep_93 rfl) ?_
        refine gg_st (go_iload 4 d_X12_doStep_96 rfl rfl) ?_
        refine gg_gd (fun h14 => ?_)
        refine gg_st (go_iald sM_12 h14 d_X12_doStep_98 rfl) ?_
        refine gg_st (go_aload_n 0 d_X12_doStep_99 rfl rfl rfl) ?_
        refine gg_st (go_getR (j := 10) cf12 sM_0 rfl (by decide) fl_X12_34 d_X12_doStep_100 rfl) ?_
        refine gg_st (go_iconst d_X12_doStep_103 ci_2 rfl) ?_
        refine gg_st (go_iload_n 3 d_X12_doStep_104 rfl rfl rfl) ?_
        refine gg_st (go_imul d_X12_doStep_105 rfl) ?_
        refine gg_gd (fun h15 => ?_)
        refine gg_st (go_iald sM_7 h15 d_X12_doStep_106 rfl) ?_
        refine gg_bind 117 (fun (t16 : Int32) => [some (.ref (0)), none, none, some (.int x1), some (.int t5), some (.int t7), none, none, none, none, none, none, none, none, none]) (fun (t16 : Int32) => [.int t16]) (fun (t16 : Int32) => s13) ?_ (fun t16 => ?_)
        · refine gg_br (br_icmp_ne (tgt := 115) (pc' := 110) d_X12_doStep_107 (by decide) rfl) (fun h17 => ?_) (fun h17 => ?_)
          · refine gg_st (go_iload 4 d_X12_doStep_110 rfl rfl) ?_
            refine gg_st (go_goto (pc' := 117) d_X12_doStep_112 (by decide)) ?_
            exact gg_end rfl
          · refine gg_st (go_iload 5 d_X12_doStep_115 rfl rfl) ?_
            exact gg_end rfl
        · refine gg_st (go_istore 6 d_X12_doStep_117 (by decide) (L' := [some (.ref (0)), none, none, some (.int x1), some (.int t5), some (.int t7), some (.int t16), none, none, none, none, none, none, none, none]) rfl rfl) ?_
          refine gg_st (go_iload 4 d_X12_doStep_119 rfl rfl) ?_
          refine gg_st (go_iload 5 d_X12_doStep_121 rfl rfl) ?_
          refine gg_st (go_iadd d_X12_doStep_123 rfl) ?_
          refine gg_st (go_iload 6 d_X12_doStep_124 rfl rfl) ?_
          refine gg_st (go_isub d_X12_doStep_126 rfl) ?_
          refine gg_nm (fun _ => [some (.ref (0)), none, none, some (.int x1), some (.int t5), some (.int t7), some (.int t16), none, none, none, none, none, none, none, none]) (fun (x18 : Int32) => [.int x18]) (fun x18 => ?_)
          refine gg_st (go_istore 7 d_X12_doStep_127 (by decide) (L' := [some (.ref (0)), none, none, some (.int x1), some (.int t5), some (.int t7), some (.int t16), some (.int x18), none, none, none, none, none, none, none]) rfl rfl) ?_
          refine gg_st (go_aload_n 0 d_X12_doStep_129 rfl rfl rfl) ?_
          refine gg_st (go_iload 6 d_X12_doStep_130 rfl rfl) ?_
          refine gg_st (go_iload 7 d_X12_doStep_132 rfl rfl) ?_
          refine gv_V (k_X12_findOuter l w F t16 x18 s13) cv_X12_415 sM_0 (Nat.le_of_ble_eq_true rfl) rfl rfl (Nat.le_of_ble_eq_true rfl) d_X12_doStep_134 rfl (fun s19 => ?_)
          refine gg_st (go_aload_n 0 d_X12_doStep_137 rfl rfl rfl) ?_
          refine gg_st (go_getR (j := 5) cf12 sM_0 rfl (by decide) fl_X12_21 d_X12_doStep_138 rfl) ?_
          refine gg_st (go_aload_n 0 d_X12_doStep_141 rfl rfl rfl) ?_
          refine gg_st (go_getR (j := 15) cf12 sM_0 rfl (by decide) fl_X12_49 d_X12_doStep_142 rfl) ?_
          refine gg_st (go_iload 6 d_X12_doStep_145 rfl rfl) ?_
          refine gg_gd (fun h20 => ?_)
          refine gg_st (go_iald sM_12 h20 d_X12_doStep_147 rfl) ?_
          refine gg_gd (fun h21 => ?_)
          refine gg_st (go_iald sM_3 h21 d_X12_doStep_148 rfl) ?_
          refine gg_nm (fun _ => [some (.ref (0)), none, none, some (.int x1), some (.int t5), some (.int t7), some (.int t16), some (.int x18), none, none, none, none, none, none, none]) (fun (x22 : Int32) => [.int x22]) (fun x22 => ?_)
          refine gg_st (go_istore 8 d_X12_doStep_149 (by decide) (L' := [some (.ref (0)), none, none, some (.int x1), some (.int t5), some (.int t7), some (.int t16), some (.int x18), some (.int x22), none, none, none, none, none, none]) rfl rfl) ?_
          refine gg_st (go_aload_n 0 d_X12_doStep_151 rfl rfl rfl) ?_
          refine gg_st (go_getR (j := 5) cf12 sM_0 rfl (by decide) fl_X12_21 d_X12_doStep_152 rfl) ?_
          refine gg_st (go_aload_n 0 d_X12_doStep_155 rfl rfl rfl) ?_
          refine gg_st (go_getR (j := 15) cf12 sM_0 rfl (by decide) fl_X12_49 d_X12_doStep_156 rfl) ?_
          refine gg_st (go_iload 7 d_X12_doStep_159 rfl rfl) ?_
          refine gg_gd (fun h23 => ?_)
          refine gg_st (go_iald sM_12 h23 d_X12_doStep_161 rfl) ?_
          refine gg_gd (fun h24 => ?_)
          refine gg_st (go_iald sM_3 h24 d_X12_doStep_162 rfl) ?_
          refine gg_nm (fun _ => [some (.ref (0)), none, none, some (.int x1), some (.int t5), some (.int t7), some (.int t16), some (.int x18), some (.int x22), none, none, none, none, none, none]) (fun (x25 : Int32) => [.int x25]) (fun x25 => ?_)
          refine gg_st (go_istore 9 d_X12_doStep_163 (by decide) (L' := [some (.ref (0)), none, none, some (.int x1), some (.int t5), some (.int t7), some (.int t16), some (.int x18), some (.int x22), some (.int x25), none, none, none, none, none]) rfl rfl) ?_
          refine gg_st (go_aload_n 0 d_X12_doStep_165 rfl rfl rfl) ?_
          refine gg_st (go_getR (j := 15) cf12 sM_0 rfl (by decide) fl_X12_49 d_X12_doStep_166 rfl) ?_
          refine gg_st (go_iload 6 d_X12_doStep_169 rfl rfl) ?_
          refine gg_st (go_iconst d_X12_doStep_171 ci_m1 rfl) ?_
          refine gg_gd (fun h26 => ?_)
          refine gg_st (go_iast sM_12 h26 d_X12_doStep_172 rfl) ?_
          refine gg_som (fun s27 => ?_)
          refine gg_st (go_aload_n 0 d_X12_doStep_173 rfl rfl rfl) ?_
          refine gg_st (go_getR (j := 15) cf12 sM_0 rfl (by decide) fl_X12_49 d_X12_doStep_174 rfl) ?_
          refine gg_st (go_iload 7 d_X12_doStep_177 rfl rfl) ?_
          refine gg_st (go_iconst d_X12_doStep_179 ci_m1 rfl) ?_
          refine gg_gd (fun h28 => ?_)
          refine gg_st (go_iast sM_12 h28 d_X12_doStep_180 rfl) ?_
          refine gg_som (fun s29 => ?_)
          refine gg_st (go_iconst d_X12_doStep_181 ci_0 rfl) ?_
          refine gg_st (go_istore 10 d_X12_doStep_182 (by decide) (L' := [some (.ref (0)), none, none, some (.int x1), some (.int t5), some (.int t7), some (.int t16), some (.int x18), some (.int x22), some (.int x25), some (.int (0 : Int32)), none, none, none, none]) rfl rfl) ?_
          refine gg_st (go_fg [some (.ref (0)), none, none, some (.int x1), none, none, none, none, some (.int x22), some (.int x25), some (.int (0 : Int32)), none, none, none, none] ⟨rfl, ⟨rfl, ⟨rfl, ⟨rfl, ⟨rfl, trivial⟩⟩⟩⟩⟩) ?_
          refine gg_bind 248 (fun (t42 : St) => [some (.ref (0)), none, none, some (.int x1), none, none, none, none, some (.int x22), some (.int x25), none, none, none, none, none]) (fun (t42 : St) => []) (fun (t42 : St) => t42) (g_f_X12_doStep_L184 l w F x1 x22 x25 F (0 : Int32) s29) (fun t42 => ?_)
          refine gg_st (go_iconst d_X12_doStep_248 ci_0 rfl) ?_
          refine gg_st (go_istore 10 d_X12_doStep_249 (by decide) (L' := [some (.ref (0)), none, none, some (.int x1), none, none, none, none, some (.int x22), some (.int x25), some (.int (0 : Int32)), none, none, none, none]) rfl rfl) ?_
          refine gg_bind 376 (fun (t62 : St) => [some (.ref (0)), none, none, some (.int x1), none, none, none, none, some (.int x22), some (.int x25), none, none, none, none, none]) (fun (t62 : St) => []) (fun (t62 : St) => t62) (g_f_X12_doStep_L251 l w F x1 x22 x25 F (0 : Int32) t42) (fun t62 => ?_)
          refine gg_st (go_iconst d_X12_doStep_376 ci_0 rfl) ?_
          refine gg_st (go_istore 10 d_X12_doStep_377 (by decide) (L' := [some (.ref (0)), none, none, some (.int x1), none, none, none, none, some (.int x22), some (.int x25), some (.int (0 : Int32)), none, none, none, none]) rfl rfl) ?_
          refine gg_bind 506 (fun (t88 : St) => [some (.ref (0)), none, none, some (.int x1), none, none, none, none, some (.int x22), some (.int x25), none, none, none, none, none]) (fun (t88 : St) => []) (fun (t88 : St) => t88) (g_f_X12_doStep_L379 l w F x1 x22 x25 F (0 : Int32) t62) (fun t88 => ?_)
          refine gg_st (go_aload_n 0 d_X12_doStep_506 rfl rfl rfl) ?_
          refine gg_st (go_dup d_X12_doStep_507 rfl rfl) ?_
          refine gg_st (go_getI (j := 19) cf12 sM_0 rfl (by decide) fl_X12_185 d_X12_doStep_508 rfl) ?_
          refine gg_st (go_aload_n 0 d_X12_doStep_511 rfl rfl rfl) ?_
          refine gg_st (go_getR (j := 14) cf12 sM_0 rfl (by decide) fl_X12_46 d_X12_doStep_512 rfl) ?_
          refine gg_st (go_iload_n 3 d_X12_doStep_515 rfl rfl rfl) ?_
          refine gg_gd (fun h89 => ?_)
          refine gg_st (go_iald sM_11 h89 d_X12_doStep_516 rfl) ?_
          refine gg_st (go_iadd d_X12_doStep_517 rfl) ?_
          refine gg_st (go_putI (j := 19) cf12 sM_0 rfl (by decide) rfl rfl fl_X12_185 d_X12_doStep_518 rfl) ?_
          refine gg_som (fun s90 => ?_)
          refine gg_st (go_iconst d_X12_doStep_521 ci_0 rfl) ?_
          refine gg_st (go_istore 10 d_X12_doStep_522 (by decide) (L' := [some (.ref (0)), none, none, some (.int x1), none, none, none, none, some (.int x22), some (.int x25), some (.int (0 : Int32)), none, none, none, none]) rfl rfl) ?_
          refine gg_bind 623 (fun (t112 : St) => [some (.ref (0)), none, none, none, none, none, none, none, none, none, none, none, none, none, none]) (fun (t112 : St) => []) (fun (t112 : St) => t112) (g_f_X12_doStep_L524 l w F x1 x22 x25 F (0 : Int32) s90) (fun t112 => ?_)
          refine gg_st (go_aload_n 0 d_X12_doStep_623 rfl rfl rfl) ?_
          refine gg_st (go_dup d_X12_doStep_624 rfl rfl) ?_
          refine gg_st (go_getI (j := 20) cf12 sM_0 rfl (by decide) fl_X12_360 d_X12_doStep_625 rfl) ?_
          refine gg_st (go_iconst d_X12_doStep_628 ci_1 rfl) ?_
          refine gg_st (go_iadd d_X12_doStep_629 rfl) ?_
          refine gg_st (go_putI (j := 20) cf12 sM_0 rfl (by decide) rfl rfl fl_X12_360 d_X12_doStep_630 rfl) ?_
          refine gg_som (fun s113 => ?_)
          refine gg_st (go_aload_n 0 d_X12_doStep_633 rfl rfl rfl) ?_
          refine gv_I (k_X12_agentMany l w F  s113) cv_X12_388 sM_0 (Nat.le_of_ble_eq_true rfl) rfl rfl (Nat.le_of_ble_eq_true rfl) d_X12_doStep_634 rfl (fun x114 => ?_)
          refine gg_st (go_istore 10 d_X12_doStep_637 (by decide) (L' := [some (.ref (0)), none, none, none, none, none, none, none, none, none, some (.int x114), none, none, none, none]) rfl rfl) ?_
          refine gg_st (go_aload_n 0 d_X12_doStep_639 rfl rfl rfl) ?_
          refine gg_st (go_iload 10 d_X12_doStep_640 rfl rfl) ?_
          refine gg_st (go_aload_n 0 d_X12_doStep_642 rfl rfl rfl) ?_
          refine gg_st (go_getI (j := 21) cf12 sM_0 rfl (by decide) fl_X12_363 d_X12_doStep_643 rfl) ?_
          refine gg_bind 658 (fun (t115 : Int32) => [none, none, none, none, none, none, none, none, none, none, none, none, none, none, none]) (fun (t115 : Int32) => [.int t115, .ref (0)]) (fun (t115 : Int32) => s113) ?_ (fun t115 => ?_)
          · refine gg_br (br_icmp_le (tgt := 654) (pc' := 649) d_X12_doStep_646 (by decide) rfl) (fun h116 => ?_) (fun h116 => ?_)
            · refine gg_st (go_iload 10 d_X12_doStep_649 rfl rfl) ?_
              refine gg_st (go_goto (pc' := 658) d_X12_doStep_651 (by decide)) ?_
              refine gg_st (go_fg [none, none, none, none, none, none, none, none, none, none, none, none, none, none, none] trivial) ?_
              exact gg_end rfl
            · refine gg_st (go_aload_n 0 d_X12_doStep_654 rfl rfl rfl) ?_
              refine gg_st (go_getI (j := 21) cf12 sM_0 rfl (by decide) fl_X12_363 d_X12_doStep_655 rfl) ?_
              refine gg_st (go_fg [none, none, none, none, none, none, none, none, none, none, none, none, none, none, none] trivial) ?_
              exact gg_end rfl
          · refine gg_st (go_putI (j := 21) cf12 sM_0 rfl (by decide) rfl rfl fl_X12_363 d_X12_doStep_658 rfl) ?_
            refine gg_som (fun s117 => ?_)
            refine gg_st (go_iconst d_X12_doStep_661 ci_1 rfl) ?_
            exact gg_zret (Or.inr rfl) rfl d_X12_doStep_662 rfl
