def f_X12_draw (p1 : Int32) (σ : St) : Option (Int32 × St) :=
  Option.bind (some (setl σ (0) 24 (p1.toInt64))) fun s1 =>
  some ((1 : Int32), s1)
set_option maxRecDepth 20000 in
theorem k_X12_draw (l : Launch) (w : Wo) (p1 : Int32) (σ : St) : K l w shM m_X12_draw 1 [.ref (0), .int p1] σ (f_X12_draw p1 σ) (rIS) := by
  refine k_of (L := [some (.ref (0)), some (.int p1)]) (plainFor_of_name (by decide +kernel)) 0 rfl (Nat.le_of_ble_eq_true rfl) ?_
  unfold f_X12_draw
  refine gg_st (go_aload_n 0 d_X12_draw_0 rfl rfl rfl) ?_
  refine gg_st (go_iload_n 1 d_X12_draw_1 rfl rfl rfl) ?_
  refine gg_st (go_i2l d_X12_draw_2 rfl) ?_
  refine gg_st (go_putL (j := 24) cf12 sM_0 rfl (by decide) rfl rfl fl_X12_58 d_X12_draw_3 rfl) ?_
  refine gg_som (fun s1 => ?_)
  refine gg_st (go_iconst d_X12_draw_6 ci_1 rfl) ?_
  exact gg_iret rfl d_X12_draw_7 rfl
def f_X12_empty_L2 (F : Nat) : Nat → Int32 → St → Option (St)
  | 0, _, _ => none
  | n + 1, v1, g =>
    if v1 < (400 : Int32) then (
      if inb v1 400 then (
        Option.bind (some (seti g (12) (ix v1) (-1 : Int32))) fun s6 =>
        f_X12_empty_L2 F n (v1 + (1 : Int32)) s6)
      else none)
    else (
      some g)
def f_X12_empty (F : Nat) (σ : St) : Option (St) :=
  Option.bind (f_X12_empty_L2 F F (0 : Int32) σ) fun t7 =>
  Option.bind (some (seti t7 (0) 18 (0 : Int32))) fun s8 =>
  Option.bind (some (seti s8 (0) 19 (0 : Int32))) fun s9 =>
  some s9
set_option maxRecDepth 20000 in
theorem g_f_X12_empty_L2 (l : Launch) (w : Wo) (F : Nat) : ∀ (n : Nat) (v1 : Int32) (g : St), GG l w shM m_X12_empty 1 2 [some (.ref (0)), some (.int v1)] [] g (f_X12_empty_L2 F n v1 g) (fun (t : St) => .inl (22, [some (.ref (0)), none], [], t)) := by
  intro n
  induction n with
  | zero =>
    intro v1 g
    exact gg_none
  | succ n ih =>
    intro v1 g
    rw [f_X12_empty_L2]
    refine gg_st (go_iload_n 1 d_X12_empty_2 rfl rfl rfl) ?_
    refine gg_st (go_sipush d_X12_empty_3 cs_400 rfl) ?_
    refine gg_br (br_icmp_ge (tgt := 22) (pc' := 9) d_X12_empty_6 (by decide) rfl) (fun h4 => ?_) (fun h4 => ?_)
    · refine gg_st (go_aload_n 0 d_X12_empty_9 rfl rfl rfl) ?_
      refine gg_st (go_getR (j := 15) cf12 sM_0 rfl (by decide) fl_X12_49 d_X12_empty_10 rfl) ?_
      refine gg_st (go_iload_n 1 d_X12_empty_13 rfl rfl rfl) ?_
      refine gg_st (go_iconst d_X12_empty_14 ci_m1 rfl) ?_
      refine gg_gd (fun h5 => ?_)
      refine gg_st (go_iast sM_12 h5 d_X12_empty_15 rfl) ?_
      refine gg_som (fun s6 => ?_)
      refine gg_st (go_iinc 1 d_X12_empty_16 rfl (v := v1 + (1 : Int32)) (by rw [ci_1]) (by decide) (L' := [some (.ref (0)), some (.int (v1 + (1 : Int32)))]) rfl rfl) ?_
      refine gg_st (go_goto (pc' := 2) d_X12_empty_19 (by decide)) ?_
      exact ih (v1 + (1 : Int32)) s6
    · refine gg_st (go_fg [some (.ref (0)), none] ⟨rfl, trivial⟩) ?_
      exact gg_end rfl
set_option maxRecDepth 20000 in
theorem k_X12_empty (l : Launch) (w : Wo) (F : Nat) (σ : St) : K l w shM m_X12_empty 1 [.ref (0)] σ (f_X12_empty F σ) (rV) := by
  refine k_of (L := [some (.ref (0)), none]) (plainFor_of_name (by decide +kernel)) 1 rfl (Nat.le_of_ble_eq_true rfl) ?_
  unfold f_X12_empty
  refine gg_st (go_iconst d_X12_empty_0 ci_0 rfl) ?_
  refine gg_st (go_istore_n 1 d_X12_empty_1 rfl (by decide) (L' := [some (.ref (0)), some (.int (0 : Int32))]) rfl rfl) ?_
  refine gg_bind 22 (fun (t7 : St) => [some (.ref (0)), none]) (fun (t7 : St) => []) (fun (t7 : St) => t7) (g_f_X12_empty_L2 l w F F (0 : Int32) σ) (fun t7 => ?_)
  refine gg_st (go_aload_n 0 d_X12_empty_22 rfl rfl rfl) ?_
  refine gg_st (go_iconst d_X12_empty_23 ci_0 rfl) ?_
  refine gg_st (go_putI (j := 18) cf12 sM_0 rfl (by decide) rfl rfl fl_X12_182 d_X12_empty_24 rfl) ?_
  refine gg_som (fun s8 => ?_)
  refine gg_st (go_aload_n 0 d_X12_empty_27 rfl rfl rfl) ?_
  refine gg_st (go_iconst d_X12_empty_28 ci_0 rfl) ?_
  refine gg_st (go_putI (j := 19) cf12 sM_0 rfl (by decide) rfl rfl fl_X12_185 d_X12_empty_29 rfl) ?_
  refine gg_som (fun s9 => ?_)
  exact gg_vret rfl d_X12_empty_32 rfl
def f_X12_end (p1 : Int32) (σ : St) : Option (Int32) :=
  Option.bind (some (f_X12_in (p1.toInt64) (0 : Int64) (((σ.1 (0) 18) - (1 : Int32)).toInt64))) fun x1 =>
  if x1 = 0 then (
    some (-1001 : Int32))
  else (
    if inb p1 8 then (
      Option.bind (f_X12_asTold (σ.1 (14) (ix p1))) fun x5 =>
      some x5)
    else none)
set_option maxRecDepth 20000 in
theorem k_X12_end (l : Launch) (w : Wo) (p1 : Int32) (σ : St) : K l w shM m_X12_end 2 [.ref (0), .int p1] σ (f_X12_end p1 σ) (rI σ) := by
  refine k_of (L := [some (.ref (0)), some (.int p1)]) (plainFor_of_name (by decide +kernel)) 0 rfl (Nat.le_of_ble_eq_true rfl) ?_
  unfold f_X12_end
  refine gg_st (go_iload_n 1 d_X12_end_0 rfl rfl rfl) ?_
  refine gg_st (go_i2l d_X12_end_1 rfl) ?_
  refine gg_st (go_lconst d_X12_end_2 (v := (0 : Int64)) (by decide) rfl) ?_
  refine gg_st (go_aload_n 0 d_X12_end_3 rfl rfl rfl) ?_
  refine gg_st (go_getI (j := 18) cf12 sM_0 rfl (by decide) fl_X12_182 d_X12_end_4 rfl) ?_
  refine gg_st (go_iconst d_X12_end_7 ci_1 rfl) ?_
  refine gg_st (go_isub d_X12_end_8 rfl) ?_
  refine gg_st (go_i2l d_X12_end_9 rfl) ?_
  refine gs_I (k_X12_in l w (p1.toInt64) (0 : Int64) (((σ.1 (0) 18) - (1 : Int32)).toInt64) σ) cs_X12_191 (Nat.le_of_ble_eq_true rfl) rfl rfl (Nat.le_of_ble_eq_true rfl) d_X12_end_10 rfl (fun x1 => ?_)
  refine gg_br (br_if_eq (tgt := 28) (pc' := 16) d_X12_end_13 (by decide) rfl) (fun h3 => ?_) (fun h3 => ?_)
  · refine gg_st (go_sipush d_X12_end_28 cs_m1001 rfl) ?_
    exact gg_iret rfl d_X12_end_31 rfl
  · refine gg_st (go_aload_n 0 d_X12_end_16 rfl rfl rfl) ?_
    refine gg_st (go_getR (j := 17) cf12 sM_0 rfl (by decide) fl_X12_55 d_X12_end_17 rfl) ?_
    refine gg_st (go_iload_n 1 d_X12_end_20 rfl rfl rfl) ?_
    refine gg_gd (fun h4 => ?_)
    refine gg_st (go_iald sM_14 h4 d_X12_end_21 rfl) ?_
    refine gs_I (k_X12_asTold l w (σ.1 (14) (ix p1)) σ) cs_X12_409 (Nat.le_of_ble_eq_true rfl) rfl rfl (Nat.le_of_ble_eq_true rfl) d_X12_end_22 rfl (fun x5 => ?_)
    refine gg_st (go_goto (pc' := 31) d_X12_end_25 (by decide)) ?_
    exact gg_iret rfl d_X12_end_31 rfl
def f_X12_endTo (p1 : Int32) (p2 : Int32) (p3 : Int32) (σ : St) : Option (Int32) :=
  if p1 = 0 then (
    if inb p3 8 then (
      some (σ.1 (14) (ix p3)))
    else none)
  else (
    if inb (((8 : Int32) * p2) + p3) 32 then (
      some (σ.1 (46) (ix (((8 : Int32) * p2) + p3))))
    else none)
set_option maxRecDepth 20000 in
theorem k_X12_endTo (l : Launch) (w : Wo) (p1 : Int32) (p2 : Int32) (p3 : Int32) (σ : St) : K l w shM m_X12_endTo 1 [.ref (0), .int p1, .int p2, .int p3] σ (f_X12_endTo p1 p2 p3 σ) (rI σ) := by
  refine k_of (L := [some (.ref (0)), some (.int p1), some (.int p2), some (.int p3)]) (plainFor_of_name (by decide +kernel)) 0 rfl (Nat.le_of_ble_eq_true rfl) ?_
  unfold f_X12_endTo
  refine gg_st (go_iload_n 1 d_X12_endTo_0 rfl rfl rfl) ?_
  refine gg_br (br_if_ne (tgt := 13) (pc' := 4) d_X12_endTo_1 (by decide) rfl) (fun h3 => ?_) (fun h3 => ?_)
  · refine gg_st (go_aload_n 0 d_X12_endTo_4 rfl rfl rfl) ?_
    refine gg_st (go_getR (j := 17) cf12 sM_0 rfl (by decide) fl_X12_55 d_X12_endTo_5 rfl) ?_
    refine gg_st (go_iload_n 3 d_X12_endTo_8 rfl rfl rfl) ?_
    refine gg_gd (fun h4 => ?_)
    refine gg_st (go_iald sM_14 h4 d_X12_endTo_9 rfl) ?_
    refine gg_st (go_goto (pc' := 24) d_X12_endTo_10 (by decide)) ?_
    exact gg_iret rfl d_X12_endTo_24 rfl
  · refine gg_st (go_aload_n 0 d_X12_endTo_13 rfl rfl rfl) ?_
    refine gg_st (go_getR (j := 75) cf12 sM_0 rfl (by decide) fl_X12_155 d_X12_endTo_14 rfl) ?_
    refine gg_st (go_bipush d_X12_endTo_17 cb_8 rfl) ?_
    refine gg_st (go_iload_n 2 d_X12_endTo_19 rfl rfl rfl) ?_
    refine gg_st (go_imul d_X12_endTo_20 rfl) ?_
    refine gg_st (go_iload_n 3 d_X12_endTo_21 rfl rfl rfl) ?_
    refine gg_st (go_iadd d_X12_endTo_22 rfl) ?_
    refine gg_gd (fun h5 => ?_)
    refine gg_st (go_iald sM_46 h5 d_X12_endTo_23 rfl) ?_
    exact gg_iret rfl d_X12_endTo_24 rfl
def f_X12_fail (p1 : Int32) (p2 : Int32) (σ : St) : Option (Int32 × St) :=
  Option.bind (some (seti σ (0) 35 p1)) fun s1 =>
  Option.bind (some (seti s1 (0) 2 p2)) fun s2 =>
  some ((0 : Int32), s2)
set_option maxRecDepth 20000 in
theorem k_X12_fail (l : Launch) (w : Wo) (p1 : Int32) (p2 : Int32) (σ : St) : K l w shM m_X12_fail 1 [.ref (0), .int p1, .int p2] σ (f_X12_fail p1 p2 σ) (rIS) := by
  refine k_of (L := [some (.ref (0)), some (.int p1), some (.int p2)]) (plainFor_of_name (by decide +kernel)) 0 rfl (Nat.le_of_ble_eq_true rfl) ?_
  unfold f_X12_fail
  refine gg_st (go_aload_n 0 d_X12_fail_0 rfl rfl rfl) ?_
  refine gg_st (go_iload_n 1 d_X12_fail_1 rfl rfl rfl) ?_
  refine gg_st (go_putI (j := 35) cf12 sM_0 rfl (by decide) rfl rfl fl_X12_231 d_X12_fail_2 rfl) ?_
  refine gg_som (fun s1 => ?_)
  refine gg_st (go_aload_n 0 d_X12_fail_5 rfl rfl rfl) ?_
  refine gg_st (go_iload_n 2 d_X12_fail_6 rfl rfl rfl) ?_
  refine gg_st (go_putI (j := 2) cf12 sM_0 rfl (by decide) rfl rfl fl_X12_13 d_X12_fail_7 rfl) ?_
  refine gg_som (fun s2 => ?_)
  refine gg_st (go_iconst d_X12_fail_10 ci_0 rfl) ?_
  exact gg_zret (Or.inl rfl) rfl d_X12_fail_11 rfl
def f_X12_feed_L20 (F : Nat) (c1 : Int32) (c2 : Int32) (c3 : Int32) (c4 : Int32) (c5 : Int32) : Nat → Int32 → St → Option (St)
  | 0, _, _ => none
  | n + 1, v2, g =>
    if v2 < (20 : Int32) then (
      Option.bind (
        if v2 < (4 : Int32) then (
          some c1)
        else (
          if v2 < (8 : Int32) then (
            some c2)
          else (
            if v2 < (12 : Int32) then (
              some c3)
            else (
              if v2 < (16 : Int32) then (
                some c4)
              else (
                some c5))))) fun t4 =>
      if inb (g.1 (0) 1) 4000 then (
        Option.bind (some (seti g (1) (ix (g.1 (0) 1)) ((t4 >>> (((24 : Int32) - ((8 : Int32) * (v2 - v2 / (4 : Int32) * (4 : Int32)))) &&& 31)) &&& (255 : Int32)))) fun s10 =>
        Option.bind (some (seti s10 (0) 1 ((s10.1 (0) 1) + (1 : Int32)))) fun s11 =>
        f_X12_feed_L20 F c1 c2 c3 c4 c5 n (v2 + (1 : Int32)) s11)
      else none)
    else (
      some g)
def f_X12_feed (F : Nat) (p1 : Int32) (p2 : Int32) (p3 : Int32) (p4 : Int32) (p5 : Int32) (σ : St) : Option (Int32 × St) :=
  if (4000 : Int32) < ((σ.1 (0) 1) + (20 : Int32)) then (
    some ((-1004 : Int32), σ))
  else (
    Option.bind (f_X12_feed_L20 F p1 p2 p3 p4 p5 F (0 : Int32) σ) fun t12 =>
    some (t12.1 (0) 1, t12))
set_option maxRecDepth 20000 in
theorem g_f_X12_feed_L20 (l : Launch) (w : Wo) (F : Nat) (c1 : Int32) (c2 : Int32) (c3 : Int32) (c4 : Int32) (c5 : Int32) : ∀ (n : Nat) (v2 : Int32) (g : St), GG l w shM m_X12_feed 1 20 [some (.ref (0)), some (.int c1), some (.int c2), some (.int c3), some (.int c4), some (.int c5), some (.int v2), none] [] g (f_X12_feed_L20 F c1 c2 c3 c4 c5 n v2 g) (fun (t : St) => .inl (117, [some (.ref (0)), none, none, none, none, none, none, none], [], t)) := by
  intro n
  induction n with
  | zero =>
    intro v2 g
    exact gg_none
  | succ n ih =>
    intro v2 g
    rw [f_X12_feed_L20]
    refine gg_st (go_iload 6 d_X12_feed_20 rfl rfl) ?_
    refine gg_st (go_bipush d_X12_feed_22 cb_20 rfl) ?_
    refine gg_br (br_icmp_ge (tgt := 117) (pc' := 27) d_X12_feed_24 (by decide) rfl) (fun h3 => ?_) (fun h3 => ?_)
    · refine gg_st (go_iload 6 d_X12_feed_27 rfl rfl) ?_
      refine gg_st (go_iconst d_X12_feed_29 ci_4 rfl) ?_
      refine gg_bind 73 (fun (t4 : Int32) => [some (.ref (0)), some (.int c1), some (.int c2), some (.int c3), some (.int c4), some (.int c5), some (.int v2), none]) (fun (t4 : Int32) => [.int t4]) (fun (t4 : Int32) => g) ?_ (fun t4 => ?_)
      · refine gg_br (br_icmp_ge (tgt := 37) (pc' := 33) d_X12_feed_30 (by decide) rfl) (fun h5 => ?_) (fun h5 => ?_)
        · refine gg_st (go_iload_n 1 d_X12_feed_33 rfl rfl rfl) ?_
          refine gg_st (go_goto (pc' := 73) d_X12_feed_34 (by decide)) ?_
          exact gg_end rfl
        · refine gg_st (go_iload 6 d_X12_feed_37 rfl rfl) ?_
          refine gg_st (go_bipush d_X12_feed_39 cb_8 rfl) ?_
          refine gg_br (br_icmp_ge (tgt := 48) (pc' := 44) d_X12_feed_41 (by decide) rfl) (fun h6 => ?_) (fun h6 => ?_)
          · refine gg_st (go_iload_n 2 d_X12_feed_44 rfl rfl rfl) ?_
            refine gg_st (go_goto (pc' := 73) d_X12_feed_45 (by decide)) ?_
            exact gg_end rfl
          · refine gg_st (go_iload 6 d_X12_feed_48 rfl rfl) ?_
            refine gg_st (go_bipush d_X12_feed_50 cb_12 rfl) ?_
            refine gg_br (br_icmp_ge (tgt := 59) (pc' := 55) d_X12_feed_52 (by decide) rfl) (fun h7 => ?_) (fun h7 => ?_)
            · refine gg_st (go_iload_n 3 d_X12_feed_55 rfl rfl rfl) ?_
              refine gg_st (go_goto (pc' := 73) d_X12_feed_56 (by decide)) ?_
              exact gg_end rfl
            · refine gg_st (go_iload 6 d_X12_feed_59 rfl rfl) ?_
              refine gg_st (go_bipush d_X12_feed_61 cb_16 rfl) ?_
              refine gg_br (br_icmp_ge (tgt := 71) (pc' := 66) d_X12_feed_63 (by decide) rfl) (fun h8 => ?_) (fun h8 => ?_)
              · refine gg_st (go_iload 4 d_X12_feed_66 rfl rfl) ?_
                refine gg_st (go_goto (pc' := 73) d_X12_feed_68 (by decide)) ?_
                exact gg_end rfl
              · refine gg_st (go_iload 5 d_X12_feed_71 rfl rfl) ?_
                exact gg_end rfl
      · refine gg_st (go_istore 7 d_X12_feed_73 (by decide) (L' := [some (.ref (0)), some (.int c1), some (.int c2), some (.int c3), some (.int c4), some (.int c5), some (.int v2), some (.int t4)]) rfl rfl) ?_
        refine gg_st (go_aload_n 0 d_X12_feed_75 rfl rfl rfl) ?_
        refine gg_st (go_getR (j := 0) cf12 sM_0 rfl (by decide) fl_X12_7 d_X12_feed_76 rfl) ?_
        refine gg_st (go_aload_n 0 d_X12_feed_79 rfl rfl rfl) ?_
        refine gg_st (go_getI (j := 1) cf12 sM_0 rfl (by decide) fl_X12_188 d_X12_feed_80 rfl) ?_
        refine gg_st (go_iload 7 d_X12_feed_83 rfl rfl) ?_
        refine gg_st (go_bipush d_X12_feed_85 cb_24 rfl) ?_
        refine gg_st (go_bipush d_X12_feed_87 cb_8 rfl) ?_
        refine gg_st (go_iload 6 d_X12_feed_89 rfl rfl) ?_
        refine gg_st (go_iconst d_X12_feed_91 ci_4 rfl) ?_
        refine gg_st (go_irem d_X12_feed_92 (by decide) rfl) ?_
        refine gg_st (go_imul d_X12_feed_93 rfl) ?_
        refine gg_st (go_isub d_X12_feed_94 rfl) ?_
        refine gg_st (go_ishr d_X12_feed_95 rfl) ?_
        refine gg_st (go_sipush d_X12_feed_96 cs_255 rfl) ?_
        refine gg_st (go_iand d_X12_feed_99 rfl) ?_
        refine gg_gd (fun h9 => ?_)
        refine gg_st (go_iast sM_1 h9 d_X12_feed_100 rfl) ?_
        refine gg_som (fun s10 => ?_)
        refine gg_st (go_aload_n 0 d_X12_feed_101 rfl rfl rfl) ?_
        refine gg_st (go_dup d_X12_feed_102 rfl rfl) ?_
        refine gg_st (go_getI (j := 1) cf12 sM_0 rfl (by decide) fl_X12_188 d_X12_feed_103 rfl) ?_
        refine gg_st (go_iconst d_X12_feed_106 ci_1 rfl) ?_
        refine gg_st (go_iadd d_X12_feed_107 rfl) ?_
        refine gg_st (go_putI (j := 1) cf12 sM_0 rfl (by decide) rfl rfl fl_X12_188 d_X12_feed_108 rfl) ?_
        refine gg_som (fun s11 => ?_)
        refine gg_st (go_iinc 6 d_X12_feed_111 rfl (v := v2 + (1 : Int32)) (by rw [ci_1]) (by decide) (L' := [some (.ref (0)), some (.int c1), some (.int c2), some (.int c3), some (.int c4), some (.int c5), some (.int (v2 + (1 : Int32))), some (.int t4)]) rfl rfl) ?_
        refine gg_st (go_goto (pc' := 20) d_X12_feed_114 (by decide)) ?_
        refine gg_st (go_fg [some (.ref (0)), some (.int c1), some (.int c2), some (.int c3), some (.int c4), some (.int c5), some (.int (v2 + (1 : Int32))), none] ⟨rfl, ⟨rfl, ⟨rfl, ⟨rfl, ⟨rfl, ⟨rfl, ⟨rfl, trivial⟩⟩⟩⟩⟩⟩⟩) ?_
        exact ih (v2 + (1 : Int32)) s11
    · refine gg_st (go_fg [some (.ref (0)), none, none, none, none, none, none, none] ⟨rfl, trivial⟩) ?_
      exact gg_end rfl
set_option maxRecDepth 20000 in
theorem k_X12_feed (l : Launch) (w : Wo) (F : Nat) (p1 : Int32) (p2 : Int32) (p3 : Int32) (p4 : Int32) (p5 : Int32) (σ : St) : K l w shM m_X12_feed 1 [.ref (0), .int p1, .int p2, .int p3, .int p4, .int p5] σ (f_X12_feed F p1 p2 p3 p4 p5 σ) (rIS) := by
  refine k_of (L := [some (.ref (0)), some (.int p1), some (.int p2), some (.int p3), some (.int p4), some (.int p5), none, none]) (plainFor_of_name (by decide +kernel)) 2 rfl (Nat.le_of_ble_eq_true rfl) ?_
  unfold f_X12_feed
  refine gg_st (go_aload_n 0 d_X12_feed_0 rfl rfl rfl) ?_
  refine gg_st (go_getI (j := 1) cf12 sM_0 rfl (by decide) fl_X12_188 d_X12_feed_1 rfl) ?_
  refine gg_st (go_bipush d_X12_feed_4 cb_20 rfl) ?_
  refine gg_st (go_iadd d_X12_feed_6 rfl) ?_
  refine gg_st (go_sipush d_X12_feed_7 cs_4000 rfl) ?_
  refine gg_br (br_icmp_le (tgt := 17) (pc' := 13) d_X12_feed_10 (by decide) rfl) (fun h1 => ?_) (fun h1 => ?_)
  · refine gg_st (go_sipush d_X12_feed_13 cs_m1004 rfl) ?_
    exact gg_iret rfl d_X12_feed_16 rfl
  · refine gg_st (go_iconst d_X12_feed_17 ci_0 rfl) ?_
    refine gg_st (go_istore 6 d_X12_feed_18 (by decide) (L' := [some (.ref (0)), some (.int p1), some (.int p2), some (.int p3), some (.int p4), some (.int p5), some (.int (0 : Int32)), none]) rfl rfl) ?_
    refine gg_bind 117 (fun (t12 : St) => [some (.ref (0)), none, none, none, none, none, none, none]) (fun (t12 : St) => []) (fun (t12 : St) => t12) (g_f_X12_feed_L20 l w F p1 p2 p3 p4 p5 F (0 : Int32) σ) (fun t12 => ?_)
    refine gg_st (go_aload_n 0 d_X12_feed_117 rfl rfl rfl) ?_
    refine gg_st (go_getI (j := 1) cf12 sM_0 rfl (by decide) fl_X12_188 d_X12_feed_118 rfl) ?_
    exact gg_iret rfl d_X12_feed_121 rfl
def f_X12_follow_L2 (F : Nat) (k0 : Int32 × St → Option (Int32 × St)) : Nat → Int32 → St → Option (Int32 × St)
  | 0, _, _ => none
  | n + 1, v1, g =>
    if ((1000 : Int32) ≤ v1) ∧ (v1 < (1200 : Int32)) then (
      if inb v1 1211 then (
        Option.bind (some (seti g (35) (ix v1) (1 : Int32))) fun s5 =>
        Option.bind (some ((v1 - (1000 : Int32)) / (2 : Int32))) fun x6 =>
        if inb x6 60 then (
          if (s5.1 (31) (ix x6)) = (1 : Int32) then (
            k0 (x6, s5))
          else (
            Option.bind (some ((((1000 : Int32) + ((2 : Int32) * x6)) + (1 : Int32)) - ((v1 - (1000 : Int32)) - (v1 - (1000 : Int32)) / (2 : Int32) * (2 : Int32)))) fun x9 =>
            if inb x9 1211 then (
              Option.bind (some (seti s5 (35) (ix x9) (1 : Int32))) fun s11 =>
              if inb x9 1211 then (
                Option.bind (some (s11.1 (29) (ix x9))) fun x13 =>
                f_X12_follow_L2 F k0 n x13 s11)
              else none)
            else none))
        else none)
      else none)
    else (
      some (v1, g))
def f_X12_follow (F : Nat) (p1 : Int32) (σ : St) : Option (Int32 × St) :=
  f_X12_follow_L2 F
    (fun (t18 : Int32 × St) =>
      if inb t18.1 60 then (
        some ((-2 : Int32) - (t18.2.1 (36) (ix t18.1)), t18.2))
      else none) F p1 σ
set_option maxRecDepth 20000 in
theorem g_f_X12_follow_L2 (l : Launch) (w : Wo) (F : Nat) (k0 : Int32 × St → Option (Int32 × St)) (hk0 : ∀ t, GG l w shM m_X12_follow 1 41 [some (.ref (0)), none, none, some (.int t.1), none] [] t.2 (k0 t) (fun q => .inr ((rIS) q))) : ∀ (n : Nat) (v1 : Int32) (g : St), GG l w shM m_X12_follow 1 2 [some (.ref (0)), none, some (.int v1), none, none] [] g (f_X12_follow_L2 F k0 n v1 g) (fun q => .inr ((rIS) q)) := by
  intro n
  induction n with
  | zero =>
    intro v1 g
    exact gg_none
  | succ n ih =>
    intro v1 g
    rw [f_X12_follow_L2]
    refine gg_st (go_iload_n 2 d_X12_follow_2 rfl rfl rfl) ?_
    refine gg_st (go_sipush d_X12_follow_3 cs_1000 rfl) ?_
    refine gg_two (c := ((1000 : Int32) ≤ v1) ∧ (v1 < (1200 : Int32))) (pA := 16) (pB := 89) (LL := [some (.ref (0)), none, some (.int v1), none, none]) (ss := []) ?_ ?_ (fun hA14 hB15 => ?_)
    · refine gg_st (go_aload_n 0 d_X12_follow_16 rfl rfl rfl) ?_
      refine gg_st (go_getR (j := 61) cf12 sM_0 rfl (by decide) fl_X12_122 d_X12_follow_17 rfl) ?_
      refine gg_st (go_iload_n 2 d_X12_follow_20 rfl rfl rfl) ?_
      refine gg_st (go_iconst d_X12_follow_21 ci_1 rfl) ?_
      refine gg_gd (fun h4 => ?_)
      refine gg_st (go_zast (Or.inr rfl) sM_35 h4 d_X12_follow_22 rfl) ?_
      refine gg_som (fun s5 => ?_)
      refine gg_st (go_iload_n 2 d_X12_follow_23 rfl rfl rfl) ?_
      refine gg_st (go_sipush d_X12_follow_24 cs_1000 rfl) ?_
      refine gg_st (go_isub d_X12_follow_27 rfl) ?_
      refine gg_st (go_iconst d_X12_follow_28 ci_2 rfl) ?_
      refine gg_st (go_idiv d_X12_follow_29 (by decide) rfl) ?_
      refine gg_nm (fun _ => [some (.ref (0)), none, some (.int v1), none, none]) (fun (x6 : Int32) => [.int x6]) (fun x6 => ?_)
      refine gg_st (go_istore_n 3 d_X12_follow_30 rfl (by decide) (L' := [some (.ref (0)), none, some (.int v1), some (.int x6), none]) rfl rfl) ?_
      refine gg_st (go_aload_n 0 d_X12_follow_31 rfl rfl rfl) ?_
      refine gg_st (go_getR (j := 56) cf12 sM_0 rfl (by decide) fl_X12_110 d_X12_follow_32 rfl) ?_
      refine gg_st (go_iload_n 3 d_X12_follow_35 rfl rfl rfl) ?_
      refine gg_gd (fun h7 => ?_)
      refine gg_st (go_iald sM_31 h7 d_X12_follow_36 rfl) ?_
      refine gg_st (go_iconst d_X12_follow_37 ci_1 rfl) ?_
      refine gg_br (br_icmp_ne (tgt := 51) (pc' := 41) d_X12_follow_38 (by decide) rfl) (fun h8 => ?_) (fun h8 => ?_)
      · refine gg_st (go_fg [some (.ref (0)), none, none, some (.int x6), none] ⟨rfl, ⟨rfl, trivial⟩⟩) ?_
        exact hk0 (x6, s5)
      · refine gg_st (go_sipush d_X12_follow_51 cs_1000 rfl) ?_
        refine gg_st (go_iconst d_X12_follow_54 ci_2 rfl) ?_
        refine gg_st (go_iload_n 3 d_X12_follow_55 rfl rfl rfl) ?_
        refine gg_st (go_imul d_X12_follow_56 rfl) ?_
        refine gg_st (go_iadd d_X12_follow_57 rfl) ?_
        refine gg_st (go_iconst d_X12_follow_58 ci_1 rfl) ?_
        refine gg_st (go_iadd d_X12_follow_59 rfl) ?_
        refine gg_st (go_iload_n 2 d_X12_follow_60 rfl rfl rfl) ?_
        refine gg_st (go_sipush d_X12_follow_61 cs_1000 rfl) ?_
        refine gg_st (go_isub d_X12_follow_64 rfl) ?_
        refine gg_st (go_iconst d_X12_follow_65 ci_2 rfl) ?_
        refine gg_st (go_irem d_X12_follow_66 (by decide) rfl) ?_
        refine gg_st (go_isub d_X12_follow_67 rfl) ?_
        refine gg_nm (fun _ => [some (.ref (0)), none, some (.int v1), some (.int x6), none]) (fun (x9 : Int32) => [.int x9]) (fun x9 => ?_)
        refine gg_st (go_istore 4 d_X12_follow_68 (by decide) (L' := [some (.ref (0)), none, some (.int v1), some (.int x6), some (.int x9)]) rfl rfl) ?_
        refine gg_st (go_aload_n 0 d_X12_follow_70 rfl rfl rfl) ?_
        refine gg_st (go_getR (j := 61) cf12 sM_0 rfl (by decide) fl_X12_122 d_X12_follow_71 rfl) ?_
        refine gg_st (go_iload 4 d_X12_follow_74 rfl rfl) ?_
        refine gg_st (go_iconst d_X12_follow_76 ci_1 rfl) ?_
        refine gg_gd (fun h10 => ?_)
        refine gg_st (go_zast (Or.inr rfl) sM_35 h10 d_X12_follow_77 rfl) ?_
        refine gg_som (fun s11 => ?_)
        refine gg_st (go_aload_n 0 d_X12_follow_78 rfl rfl rfl) ?_
        refine gg_st (go_getR (j := 53) cf12 sM_0 rfl (by decide) fl_X12_104 d_X12_follow_79 rfl) ?_
        refine gg_st (go_iload 4 d_X12_follow_82 rfl rfl) ?_
        refine gg_gd (fun h12 => ?_)
        refine gg_st (go_iald sM_29 h12 d_X12_follow_84 rfl) ?_
        refine gg_nm (fun _ => [some (.ref (0)), none, some (.int v1), some (.int x6), some (.int x9)]) (fun (x13 : Int32) => [.int x13]) (fun x13 => ?_)
        refine gg_st (go_istore_n 2 d_X12_follow_85 rfl (by decide) (L' := [some (.ref (0)), none, some (.int x13), some (.int x6), some (.int x9)]) rfl rfl) ?_
        refine gg_st (go_goto (pc' := 2) d_X12_follow_86 (by decide)) ?_
        refine gg_st (go_fg [some (.ref (0)), none, some (.int x13), none, none] ⟨rfl, ⟨rfl, trivial⟩⟩) ?_
        exact ih x13 s11
    · refine gg_st (go_iload_n 2 d_X12_follow_89 rfl rfl rfl) ?_
      exact gg_iret rfl d_X12_follow_90 rfl
    refine gg_brs (br_icmp_lt (tgt := 89) (pc' := 9) d_X12_follow_6 (by decide) rfl) (fun h16 => ?_) (fun h16 => ?_)
    · refine gg_st (go_iload_n 2 d_X12_follow_9 rfl rfl rfl) ?_
      refine gg_st (go_sipush d_X12_follow_10 cs_1200 rfl) ?_
      refine gg_brs (br_icmp_ge (tgt := 89) (pc' := 16) d_X12_follow_13 (by decide) rfl) (fun h17 => ?_) (fun h17 => ?_)
      · exact gg_eq (if_pos ⟨h16, h17⟩) hA14
      · exact gg_eq (if_neg (fun z => h17 z.2)) hB15
    · exact gg_eq (if_neg (fun z => h16 z.1)) hB15
set_option maxRecDepth 20000 in
theorem k_X12_follow (l : Launch) (w : Wo) (F : Nat) (p1 : Int32) (σ : St) : K l w shM m_X12_follow 1 [.ref (0), .int p1] σ (f_X12_follow F p1 σ) (rIS) := by
  refine k_of (L := [some (.ref (0)), some (.int p1), none, none, none]) (plainFor_of_name (by decide +kernel)) 3 rfl (Nat.le_of_ble_eq_true rfl) ?_
  unfold f_X12_follow
  refine gg_st (go_iload_n 1 d_X12_follow_0 rfl rfl rfl) ?_
  refine gg_st (go_istore_n 2 d_X12_follow_1 rfl (by decide) (L' := [some (.ref (0)), some (.int p1), some (.int p1), none, none]) rfl rfl) ?_
  refine gg_st (go_fg [some (.ref (0)), none, some (.int p1), none, none] ⟨rfl, ⟨rfl, trivial⟩⟩) ?_
  refine g_f_X12_follow_L2 l w F _ (fun t18 => ?_) F p1 σ
  refine gg_st (go_bipush d_X12_follow_41 cb_m2 rfl) ?_
  refine gg_st (go_aload_n 0 d_X12_follow_43 rfl rfl rfl) ?_
  refine gg_st (go_getR (j := 62) cf12 sM_0 rfl (by decide) fl_X12_125 d_X12_follow_44 rfl) ?_
  refine gg_st (go_iload_n 3 d_X12_follow_47 rfl rfl rfl) ?_
  refine gg_gd (fun h19 => ?_)
  refine gg_st (go_iald sM_36 h19 d_X12_follow_48 rfl) ?_
  refine gg_st (go_isub d_X12_follow_49 rfl) ?_
  exact gg_iret rfl d_X12_follow_50 rfl
def f_X12_plusOf (p1 : Int32) (σ : St) : Option (Int32) :=
  if p1 < (1000 : Int32) then (
    if inb (p1 / (5 : Int32)) 200 then (
      if inb (((5 : Int32) * (σ.1 (27) (ix (p1 / (5 : Int32))))) + (p1 - p1 / (5 : Int32) * (5 : Int32))) 80 then (
        if (σ.1 (20) (ix (((5 : Int32) * (σ.1 (27) (ix (p1 / (5 : Int32))))) + (p1 - p1 / (5 : Int32) * (5 : Int32))))) = 0 ∨ (σ.1 (20) (ix (((5 : Int32) * (σ.1 (27) (ix (p1 / (5 : Int32))))) + (p1 - p1 / (5 : Int32) * (5 : Int32))))) = 1 then some (σ.1 (20) (ix (((5 : Int32) * (σ.1 (27) (ix (p1 / (5 : Int32))))) + (p1 - p1 / (5 : Int32) * (5 : Int32))))) else none)
      else none)
    else none)
  else (
    if inb ((p1 - (1200 : Int32)) / (5 : Int32)) 2 then (
      if inb (((5 : Int32) * (σ.1 (32) (ix ((p1 - (1200 : Int32)) / (5 : Int32))))) + ((p1 - (1200 : Int32)) - (p1 - (1200 : Int32)) / (5 : Int32) * (5 : Int32))) 80 then (
        if (σ.1 (20) (ix (((5 : Int32) * (σ.1 (32) (ix ((p1 - (1200 : Int32)) / (5 : Int32))))) + ((p1 - (1200 : Int32)) - (p1 - (1200 : Int32)) / (5 : Int32) * (5 : Int32))))) = 0 then (
          some (1 : Int32))
        else (
          some (0 : Int32)))
      else none)
    else none)
set_option maxRecDepth 20000 in
theorem k_X12_plusOf (l : Launch) (w : Wo) (p1 : Int32) (σ : St) : K l w shM m_X12_plusOf 1 [.ref (0), .int p1] σ (f_X12_plusOf p1 σ) (rI σ) := by
  refine k_of (L := [some (.ref (0)), some (.int p1)]) (plainFor_of_name (by decide +kernel)) 0 rfl (Nat.le_of_ble_eq_true rfl) ?_
  unfold f_X12_plusOf
  refine gg_st (go_iload_n 1 d_X12_plusOf_0 rfl rfl rfl) ?_
  refine gg_st (go_sipush d_X12_plusOf_1 cs_1000 rfl) ?_
  refine gg_br (br_icmp_ge (tgt := 29) (pc' := 7) d_X12_plusOf_4 (by decide) rfl) (fun h3 => ?_) (fun h3 => ?_)
  · refine gg_st (go_aload_n 0 d_X12_plusOf_7 rfl rfl rfl) ?_
    refine gg_st (go_getR (j := 40) cf12 sM_0 rfl (by decide) fl_X12_77 d_X12_plusOf_8 rfl) ?_
    refine gg_st (go_iconst d_X12_plusOf_11 ci_5 rfl) ?_
    refine gg_st (go_aload_n 0 d_X12_plusOf_12 rfl rfl rfl) ?_
    refine gg_st (go_getR (j := 51) cf12 sM_0 rfl (by decide) fl_X12_98 d_X12_plusOf_13 rfl) ?_
    refine gg_st (go_iload_n 1 d_X12_plusOf_16 rfl rfl rfl) ?_
    refine gg_st (go_iconst d_X12_plusOf_17 ci_5 rfl) ?_
    refine gg_st (go_idiv d_X12_plusOf_18 (by decide) rfl) ?_
    refine gg_gd (fun h4 => ?_)
    refine gg_st (go_iald sM_27 h4 d_X12_plusOf_19 rfl) ?_
    refine gg_st (go_imul d_X12_plusOf_20 rfl) ?_
    refine gg_st (go_iload_n 1 d_X12_plusOf_21 rfl rfl rfl) ?_
    refine gg_st (go_iconst d_X12_plusOf_22 ci_5 rfl) ?_
    refine gg_st (go_irem d_X12_plusOf_23 (by decide) rfl) ?_
    refine gg_st (go_iadd d_X12_plusOf_24 rfl) ?_
    refine gg_gd (fun h5 => ?_)
    refine gg_st (go_zald sM_20 h5 d_X12_plusOf_25 rfl) ?_
    refine gg_st (go_goto (pc' := 64) d_X12_plusOf_26 (by decide)) ?_
    refine gg_gd (fun h6 => ?_)
    exact gg_zret h6 rfl d_X12_plusOf_64 rfl
  · refine gg_st (go_aload_n 0 d_X12_plusOf_29 rfl rfl rfl) ?_
    refine gg_st (go_getR (j := 40) cf12 sM_0 rfl (by decide) fl_X12_77 d_X12_plusOf_30 rfl) ?_
    refine gg_st (go_iconst d_X12_plusOf_33 ci_5 rfl) ?_
    refine gg_st (go_aload_n 0 d_X12_plusOf_34 rfl rfl rfl) ?_
    refine gg_st (go_getR (j := 57) cf12 sM_0 rfl (by decide) fl_X12_113 d_X12_plusOf_35 rfl) ?_
    refine gg_st (go_iload_n 1 d_X12_plusOf_38 rfl rfl rfl) ?_
    refine gg_st (go_sipush d_X12_plusOf_39 cs_1200 rfl) ?_
    refine gg_st (go_isub d_X12_plusOf_42 rfl) ?_
    refine gg_st (go_iconst d_X12_plusOf_43 ci_5 rfl) ?_
    refine gg_st (go_idiv d_X12_plusOf_44 (by decide) rfl) ?_
    refine gg_gd (fun h7 => ?_)
    refine gg_st (go_iald sM_32 h7 d_X12_plusOf_45 rfl) ?_
    refine gg_st (go_imul d_X12_plusOf_46 rfl) ?_
    refine gg_st (go_iload_n 1 d_X12_plusOf_47 rfl rfl rfl) ?_
    refine gg_st (go_sipush d_X12_plusOf_48 cs_1200 rfl) ?_
    refine gg_st (go_isub d_X12_plusOf_51 rfl) ?_
    refine gg_st (go_iconst d_X12_plusOf_52 ci_5 rfl) ?_
    refine gg_st (go_irem d_X12_plusOf_53 (by decide) rfl) ?_
    refine gg_st (go_iadd d_X12_plusOf_54 rfl) ?_
    refine gg_gd (fun h8 => ?_)
    refine gg_st (go_zald sM_20 h8 d_X12_plusOf_55 rfl) ?_
    refine gg_br (br_if_ne (tgt := 63) (pc' := 59) d_X12_plusOf_56 (by decide) rfl) (fun h9 => ?_) (fun h9 => ?_)
    · refine gg_st (go_iconst d_X12_plusOf_59 ci_1 rfl) ?_
      refine gg_st (go_goto (pc' := 64) d_X12_plusOf_60 (by decide)) ?_
      exact gg_zret (Or.inr rfl) rfl d_X12_plusOf_64 rfl
    · refine gg_st (go_iconst d_X12_plusOf_63 ci_0 rfl) ?_
      exact gg_zret (Or.inl rfl) rfl d_X12_plusOf_64 rfl
def f_X12_sortOf (p1 : Int32) (σ : St) : Option (Int32) :=
  if p1 < (1000 : Int32) then (
    if inb (p1 / (5 : Int32)) 200 then (
      if inb (((5 : Int32) * (σ.1 (27) (ix (p1 / (5 : Int32))))) + (p1 - p1 / (5 : Int32) * (5 : Int32))) 80 then (
        some (σ.1 (19) (ix (((5 : Int32) * (σ.1 (27) (ix (p1 / (5 : Int32))))) + (p1 - p1 / (5 : Int32) * (5 : Int32))))))
      else none)
    else none)
  else (
    if inb ((p1 - (1200 : Int32)) / (5 : Int32)) 2 then (
      if inb (((5 : Int32) * (σ.1 (32) (ix ((p1 - (1200 : Int32)) / (5 : Int32))))) + ((p1 - (1200 : Int32)) - (p1 - (1200 : Int32)) / (5 : Int32) * (5 : Int32))) 80 then (
        some (σ.1 (19) (ix (((5 : Int32) * (σ.1 (32) (ix ((p1 - (1200 : Int32)) / (5 : Int32))))) + ((p1 - (1200 : Int32)) - (p1 - (1200 : Int32)) / (5 : Int32) * (5 : Int32))))))
      else none)
    else none)
set_option maxRecDepth 20000 in
theorem k_X12_sortOf (l : Launch) (w : Wo) (p1 : Int32) (σ : St) : K l w shM m_X12_sortOf 1 [.ref (0), .int p1] σ (f_X12_sortOf p1 σ) (rI σ) := by
  refine k_of (L := [some (.ref (0)), some (.int p1)]) (plainFor_of_name (by decide +kernel)) 0 rfl (Nat.le_of_ble_eq_true rfl) ?_
  unfold f_X12_sortOf
  refine gg_st (go_iload_n 1 d_X12_sortOf_0 rfl rfl rfl) ?_
  refine gg_st (go_sipush d_X12_sortOf_1 cs_1000 rfl) ?_
  refine gg_br (br_icmp_ge (tgt := 29) (pc' := 7) d_X12_sortOf_4 (by decide) rfl) (fun h3 => ?_) (fun h3 => ?_)
  · refine gg_st (go_aload_n 0 d_X12_sortOf_7 rfl rfl rfl) ?_
    refine gg_st (go_getR (j := 39) cf12 sM_0 rfl (by decide) fl_X12_74 d_X12_sortOf_8 rfl) ?_
    refine gg_st (go_iconst d_X12_sortOf_11 ci_5 rfl) ?_
    refine gg_st (go_aload_n 0 d_X12_sortOf_12 rfl rfl rfl) ?_
    refine gg_st (go_getR (j := 51) cf12 sM_0 rfl (by decide) fl_X12_98 d_X12_sortOf_13 rfl) ?_
    refine gg_st (go_iload_n 1 d_X12_sortOf_16 rfl rfl rfl) ?_
    refine gg_st (go_iconst d_X12_sortOf_17 ci_5 rfl) ?_
    refine gg_st (go_idiv d_X12_sortOf_18 (by decide) rfl) ?_
    refine gg_gd (fun h4 => ?_)
    refine gg_st (go_iald sM_27 h4 d_X12_sortOf_19 rfl) ?_
    refine gg_st (go_imul d_X12_sortOf_20 rfl) ?_
    refine gg_st (go_iload_n 1 d_X12_sortOf_21 rfl rfl rfl) ?_
    refine gg_st (go_iconst d_X12_sortOf_22 ci_5 rfl) ?_
    refine gg_st (go_irem d_X12_sortOf_23 (by decide) rfl) ?_
    refine gg_st (go_iadd d_X12_sortOf_24 rfl) ?_
    refine gg_gd (fun h5 => ?_)
    refine gg_st (go_iald sM_19 h5 d_X12_sortOf_25 rfl) ?_
    refine gg_st (go_goto (pc' := 56) d_X12_sortOf_26 (by decide)) ?_
    exact gg_iret rfl d_X12_sortOf_56 rfl
  · refine gg_st (go_aload_n 0 d_X12_sortOf_29 rfl rfl rfl) ?_
    refine gg_st (go_getR (j := 39) cf12 sM_0 rfl (by decide) fl_X12_74 d_X12_sortOf_30 rfl) ?_
    refine gg_st (go_iconst d_X12_sortOf_33 ci_5 rfl) ?_
    refine gg_st (go_aload_n 0 d_X12_sortOf_34 rfl rfl rfl) ?_
    refine gg_st (go_getR (j := 57) cf12 sM_0 rfl (by decide) fl_X12_113 d_X12_sortOf_35 rfl) ?_
    refine gg_st (go_iload_n 1 d_X12_sortOf_38 rfl rfl rfl) ?_
    refine gg_st (go_sipush d_X12_sortOf_39 cs_1200 rfl) ?_
    refine gg_st (go_isub d_X12_sortOf_42 rfl) ?_
    refine gg_st (go_iconst d_X12_sortOf_43 ci_5 rfl) ?_
    refine gg_st (go_idiv d_X12_sortOf_44 (by decide) rfl) ?_
    refine gg_gd (fun h6 => ?_)
    refine gg_st (go_iald sM_32 h6 d_X12_sortOf_45 rfl) ?_
    refine gg_st (go_imul d_X12_sortOf_46 rfl) ?_
    refine gg_st (go_iload_n 1 d_X12_sortOf_47 rfl rfl rfl) ?_
    refine gg_st (go_sipush d_X12_sortOf_48 cs_1200 rfl) ?_
    refine gg_st (go_isub d_X12_sortOf_51 rfl) ?_
    refine gg_st (go_iconst d_X12_sortOf_52 ci_5 rfl) ?_
    refine gg_st (go_irem d_X12_sortOf_53 (by decide) rfl) ?_
    refine gg_st (go_iadd d_X12_sortOf_54 rfl) ?_
    refine gg_gd (fun h7 => ?_)
    refine gg_st (go_iald sM_19 h7 d_X12_sortOf_55 rfl) ?_
    exact gg_iret rfl d_X12_sortOf_56 rfl
def f_X12_fits (F : Nat) (p1 : Int32) (σ : St) : Option (Int32 × St) :=
  if inb p1 1211 then (
    Option.bind (f_X12_follow F (σ.1 (29) (ix p1)) σ) fun x2 =>
    if 0 ≤ x2.1 then (
      Option.bind (f_X12_sortOf x2.1 x2.2) fun x4 =>
      Option.bind (f_X12_sortOf p1 x2.2) fun x5 =>
      if x4 = x5 then (
        Option.bind (f_X12_plusOf x2.1 x2.2) fun x7 =>
        Option.bind (f_X12_plusOf p1 x2.2) fun x8 =>
        if x7 = x8 then (
          some ((0 : Int32), x2.2))
        else (
          some ((1 : Int32), x2.2)))
      else (
        some ((0 : Int32), x2.2)))
    else (
      some ((1 : Int32), x2.2)))
  else none
set_option maxRecDepth 20000 in
theorem k_X12_fits (l : Launch) (w : Wo) (F : Nat) (p1 : Int32) (σ : St) : K l w shM m_X12_fits 2 [.ref (0), .int p1] σ (f_X12_fits F p1 σ) (rIS) := by
  refine k_of (L := [some (.ref (0)), some (.int p1), none]) (plainFor_of_name (by decide +kernel)) 1 rfl (Nat.le_of_ble_eq_true rfl) ?_
  unfold f_X12_fits
  refine gg_st (go_aload_n 0 d_X12_fits_0 rfl rfl rfl) ?_
  refine gg_st (go_aload_n 0 d_X12_fits_1 rfl rfl rfl) ?_
  refine gg_st (go_getR (j := 53) cf12 sM_0 rfl (by decide) fl_X12_104 d_X12_fits_2 rfl) ?_
  refine gg_st (go_iload_n 1 d_X12_fits_5 rfl rfl rfl) ?_
  refine gg_gd (fun h1 => ?_)
  refine gg_st (go_iald sM_29 h1 d_X12_fits_6 rfl) ?_
  refine gv_IS (k_X12_follow l w F (σ.1 (29) (ix p1)) σ) cv_X12_284 sM_0 (Nat.le_of_ble_eq_true rfl) rfl rfl (Nat.le_of_ble_eq_true rfl) d_X12_fits_7 rfl (fun x2 => ?_)
  refine gg_st (go_istore_n 2 d_X12_fits_10 rfl (by decide) (L' := [some (.ref (0)), some (.int p1), some (.int x2.1)]) rfl rfl) ?_
  refine gg_st (go_iload_n 2 d_X12_fits_11 rfl rfl rfl) ?_
  refine gg_br (br_if_lt (tgt := 41) (pc' := 15) d_X12_fits_12 (by decide) rfl) (fun h3 => ?_) (fun h3 => ?_)
  · refine gg_st (go_aload_n 0 d_X12_fits_15 rfl rfl rfl) ?_
    refine gg_st (go_iload_n 2 d_X12_fits_16 rfl rfl rfl) ?_
    refine gv_I (k_X12_sortOf l w x2.1 x2.2) cv_X12_287 sM_0 (Nat.le_of_ble_eq_true rfl) rfl rfl (Nat.le_of_ble_eq_true rfl) d_X12_fits_17 rfl (fun x4 => ?_)
    refine gg_st (go_aload_n 0 d_X12_fits_20 rfl rfl rfl) ?_
    refine gg_st (go_iload_n 1 d_X12_fits_21 rfl rfl rfl) ?_
    refine gv_I (k_X12_sortOf l w p1 x2.2) cv_X12_287 sM_0 (Nat.le_of_ble_eq_true rfl) rfl rfl (Nat.le_of_ble_eq_true rfl) d_X12_fits_22 rfl (fun x5 => ?_)
    refine gg_br (br_icmp_ne (tgt := 45) (pc' := 28) d_X12_fits_25 (by decide) rfl) (fun h6 => ?_) (fun h6 => ?_)
    · refine gg_st (go_aload_n 0 d_X12_fits_28 rfl rfl rfl) ?_
      refine gg_st (go_iload_n 2 d_X12_fits_29 rfl rfl rfl) ?_
      refine gv_I (k_X12_plusOf l w x2.1 x2.2) cv_X12_290 sM_0 (Nat.le_of_ble_eq_true rfl) rfl rfl (Nat.le_of_ble_eq_true rfl) d_X12_fits_30 rfl (fun x7 => ?_)
      refine gg_st (go_aload_n 0 d_X12_fits_33 rfl rfl rfl) ?_
      refine gg_st (go_iload_n 1 d_X12_fits_34 rfl rfl rfl) ?_
      refine gv_I (k_X12_plusOf l w p1 x2.2) cv_X12_290 sM_0 (Nat.le_of_ble_eq_true rfl) rfl rfl (Nat.le_of_ble_eq_true rfl) d_X12_fits_35 rfl (fun x8 => ?_)
      refine gg_br (br_icmp_eq (tgt := 45) (pc' := 41) d_X12_fits_38 (by decide) rfl) (fun h9 => ?_) (fun h9 => ?_)
      · refine gg_st (go_iconst d_X12_fits_45 ci_0 rfl) ?_
        exact gg_zret (Or.inl rfl) rfl d_X12_fits_46 rfl
      · refine gg_st (go_iconst d_X12_fits_41 ci_1 rfl) ?_
        refine gg_st (go_goto (pc' := 46) d_X12_fits_42 (by decide)) ?_
        exact gg_zret (Or.inr rfl) rfl d_X12_fits_46 rfl
    · refine gg_st (go_iconst d_X12_fits_45 ci_0 rfl) ?_
      exact gg_zret (Or.inl rfl) rfl d_X12_fits_46 rfl
  · refine gg_st (go_iconst d_X12_fits_41 ci_1 rfl) ?_
    refine gg_st (go_goto (pc' := 46) d_X12_fits_42 (by decide)) ?_
    exact gg_zret (Or.inr rfl) rfl d_X12_fits_46 rfl
def f_X12_fitAll_L2 (F : Nat) : Nat → Int32 → St → Option (St)
  | 0, _, _ => none
  | n + 1, v1, g =>
    if v1 < (1211 : Int32) then (
      if inb v1 1211 then (
        Option.bind (some (seti g (35) (ix v1) (0 : Int32))) fun s6 =>
        f_X12_fitAll_L2 F n (v1 + (1 : Int32)) s6)
      else none)
    else (
      some g)
def f_X12_fitAll_L36 (F : Nat) (c2 : Int32) : Nat → Int32 → Int32 → St → Option (Int32 × St)
  | 0, _, _, _ => none
  | n + 1, v11, v12, g =>
    if inb c2 200 then (
      if inb (g.1 (27) (ix c2)) 16 then (
        if v12 < (g.1 (18) (ix (g.1 (27) (ix c2)))) then (
          Option.bind (f_X12_fits F (((5 : Int32) * c2) + v12) g) fun x16 =>
          Option.bind (
            if (x16.1 = 0) ∨ (v11 = 0) then (
              some (0 : Int32))
            else (
              some (1 : Int32))) fun t17 =>
          f_X12_fitAll_L36 F c2 n t17 (v12 + (1 : Int32)) x16.2)
        else (
          some (v11, g)))
      else none)
    else none
def f_X12_fitAll_L26 (F : Nat) : Nat → Int32 → Int32 → St → Option (Int32 × St)
  | 0, _, _, _ => none
  | n + 1, v8, v9, g =>
    if v9 < (g.1 (0) 49) then (
      Option.bind (f_X12_fitAll_L36 F v9 F v8 (0 : Int32) g) fun t22 =>
      f_X12_fitAll_L26 F n t22.1 (v9 + (1 : Int32)) t22.2)
    else (
      some (v8, g))
def f_X12_fitAll (F : Nat) (σ : St) : Option (Int32 × St) :=
  Option.bind (f_X12_fitAll_L2 F F (0 : Int32) σ) fun t7 =>
  Option.bind (f_X12_fitAll_L26 F F (1 : Int32) (0 : Int32) t7) fun t23 =>
  if t23.1 = 0 ∨ t23.1 = 1 then some (t23.1, t23.2) else none
set_option maxRecDepth 20000 in
theorem g_f_X12_fitAll_L2 (l : Launch) (w : Wo) (F : Nat) : ∀ (n : Nat) (v1 : Int32) (g : St), GG l w shM m_X12_fitAll 3 2 [some (.ref (0)), some (.int v1), none, none] [] g (f_X12_fitAll_L2 F n v1 g) (fun (t : St) => .inl (22, [some (.ref (0)), none, none, none], [], t)) := by
  intro n
  induction n with
  | zero =>
    intro v1 g
    exact gg_none
  | succ n ih =>
    intro v1 g
    rw [f_X12_fitAll_L2]
    refine gg_st (go_iload_n 1 d_X12_fitAll_2 rfl rfl rfl) ?_
    refine gg_st (go_sipush d_X12_fitAll_3 cs_1211 rfl) ?_
    refine gg_br (br_icmp_ge (tgt := 22) (pc' := 9) d_X12_fitAll_6 (by decide) rfl) (fun h4 => ?_) (fun h4 => ?_)
    · refine gg_st (go_aload_n 0 d_X12_fitAll_9 rfl rfl rfl) ?_
      refine gg_st (go_getR (j := 61) cf12 sM_0 rfl (by decide) fl_X12_122 d_X12_fitAll_10 rfl) ?_
      refine gg_st (go_iload_n 1 d_X12_fitAll_13 rfl rfl rfl) ?_
      refine gg_st (go_iconst d_X12_fitAll_14 ci_0 rfl) ?_
      refine gg_gd (fun h5 => ?_)
      refine gg_st (go_zast (Or.inl rfl) sM_35 h5 d_X12_fitAll_15 rfl) ?_
      refine gg_som (fun s6 => ?_)
      refine gg_st (go_iinc 1 d_X12_fitAll_16 rfl (v := v1 + (1 : Int32)) (by rw [ci_1]) (by decide) (L' := [some (.ref (0)), some (.int (v1 + (1 : Int32))), none, none]) rfl rfl) ?_
      refine gg_st (go_goto (pc' := 2) d_X12_fitAll_19 (by decide)) ?_
      exact ih (v1 + (1 : Int32)) s6
    · refine gg_st (go_fg [some (.ref (0)), none, none, none] ⟨rfl, trivial⟩) ?_
      exact gg_end rfl
set_option maxRecDepth 20000 in
theorem g_f_X12_fitAll_L36 (l : Launch) (w : Wo) (F : Nat) (c2 : Int32) : ∀ (n : Nat) (v11 : Int32) (v12 : Int32) (g : St), GG l w shM m_X12_fitAll 3 36 [some (.ref (0)), some (.int v11), some (.int c2), some (.int v12)] [] g (f_X12_fitAll_L36 F c2 n v11 v12 g) (fun (t : Int32 × St) => .inl (79, [some (.ref (0)), some (.int t.1), some (.int c2), none], [], t.2)) := by
  intro n
  induction n with
  | zero =>
    intro v11 v12 g
    exact gg_none
  | succ n ih =>
    intro v11 v12 g
    rw [f_X12_fitAll_L36]
    refine gg_st (go_iload_n 3 d_X12_fitAll_36 rfl rfl rfl) ?_
    refine gg_st (go_aload_n 0 d_X12_fitAll_37 rfl rfl rfl) ?_
    refine gg_st (go_getR (j := 38) cf12 sM_0 rfl (by decide) fl_X12_71 d_X12_fitAll_38 rfl) ?_
    refine gg_st (go_aload_n 0 d_X12_fitAll_41 rfl rfl rfl) ?_
    refine gg_st (go_getR (j := 51) cf12 sM_0 rfl (by decide) fl_X12_98 d_X12_fitAll_42 rfl) ?_
    refine gg_st (go_iload_n 2 d_X12_fitAll_45 rfl rfl rfl) ?_
    refine gg_gd (fun h13 => ?_)
    refine gg_st (go_iald sM_27 h13 d_X12_fitAll_46 rfl) ?_
    refine gg_gd (fun h14 => ?_)
    refine gg_st (go_iald sM_18 h14 d_X12_fitAll_47 rfl) ?_
    refine gg_br (br_icmp_ge (tgt := 79) (pc' := 51) d_X12_fitAll_48 (by decide) rfl) (fun h15 => ?_) (fun h15 => ?_)
    · refine gg_st (go_aload_n 0 d_X12_fitAll_51 rfl rfl rfl) ?_
      refine gg_st (go_iconst d_X12_fitAll_52 ci_5 rfl) ?_
      refine gg_st (go_iload_n 2 d_X12_fitAll_53 rfl rfl rfl) ?_
      refine gg_st (go_imul d_X12_fitAll_54 rfl) ?_
      refine gg_st (go_iload_n 3 d_X12_fitAll_55 rfl rfl rfl) ?_
      refine gg_st (go_iadd d_X12_fitAll_56 rfl) ?_
      refine gv_IS (k_X12_fits l w F (((5 : Int32) * c2) + v12) g) cv_X12_293 sM_0 (Nat.le_of_ble_eq_true rfl) rfl rfl (Nat.le_of_ble_eq_true rfl) d_X12_fitAll_57 rfl (fun x16 => ?_)
      refine gg_bind 72 (fun (t17 : Int32) => [some (.ref (0)), none, some (.int c2), some (.int v12)]) (fun (t17 : Int32) => [.int t17]) (fun (t17 : Int32) => x16.2) ?_ (fun t17 => ?_)
      · refine gg_two (c := (x16.1 = 0) ∨ (v11 = 0)) (pA := 71) (pB := 67) (LL := [some (.ref (0)), some (.int v11), some (.int c2), some (.int v12)]) (ss := []) ?_ ?_ (fun hA18 hB19 => ?_)
        · refine gg_st (go_iconst d_X12_fitAll_71 ci_0 rfl) ?_
          refine gg_st (go_fg [some (.ref (0)), none, some (.int c2), some (.int v12)] ⟨rfl, ⟨rfl, ⟨rfl, trivial⟩⟩⟩) ?_
          exact gg_end rfl
        · refine gg_st (go_iconst d_X12_fitAll_67 ci_1 rfl) ?_
          refine gg_st (go_goto (pc' := 72) d_X12_fitAll_68 (by decide)) ?_
          refine gg_st (go_fg [some (.ref (0)), none, some (.int c2), some (.int v12)] ⟨rfl, ⟨rfl, ⟨rfl, trivial⟩⟩⟩) ?_
          exact gg_end rfl
        refine gg_brs (br_if_eq (tgt := 71) (pc' := 63) d_X12_fitAll_60 (by decide) rfl) (fun h20 => ?_) (fun h20 => ?_)
        · exact gg_eq (if_pos (Or.inl h20)) hA18
        · refine gg_st (go_iload_n 1 d_X12_fitAll_63 rfl rfl rfl) ?_
          refine gg_brs (br_if_eq (tgt := 71) (pc' := 67) d_X12_fitAll_64 (by decide) rfl) (fun h21 => ?_) (fun h21 => ?_)
          · exact gg_eq (if_pos (Or.inr h21)) hA18
          · exact gg_eq (if_neg (fun z => z.elim h20 h21)) hB19
      · refine gg_st (go_istore_n 1 d_X12_fitAll_72 rfl (by decide) (L' := [some (.ref (0)), some (.int t17), some (.int c2), some (.int v12)]) rfl rfl) ?_
        refine gg_st (go_iinc 3 d_X12_fitAll_73 rfl (v := v12 + (1 : Int32)) (by rw [ci_1]) (by decide) (L' := [some (.ref (0)), some (.int t17), some (.int c2), some (.int (v12 + (1 : Int32)))]) rfl rfl) ?_
        refine gg_st (go_goto (pc' := 36) d_X12_fitAll_76 (by decide)) ?_
        exact ih t17 (v12 + (1 : Int32)) x16.2
    · refine gg_st (go_fg [some (.ref (0)), some (.int v11), some (.int c2), none] ⟨rfl, ⟨rfl, ⟨rfl, trivial⟩⟩⟩) ?_
      exact gg_end rfl
set_option maxRecDepth 20000 in
theorem g_f_X12_fitAll_L26 (l : Launch) (w : Wo) (F : Nat) : ∀ (n : Nat) (v8 : Int32) (v9 : Int32) (g : St), GG l w shM m_X12_fitAll 3 26 [some (.ref (0)), some (.int v8), some (.int v9), none] [] g (f_X12_fitAll_L26 F n v8 v9 g) (fun (t : Int32 × St) => .inl (85, [none, some (.int t.1), none, none], [], t.2)) := by
  intro n
  induction n with
  | zero =>
    intro v8 v9 g
    exact gg_none
  | succ n ih =>
    intro v8 v9 g
    rw [f_X12_fitAll_L26]
    refine gg_st (go_iload_n 2 d_X12_fitAll_26 rfl rfl rfl) ?_
    refine gg_st (go_aload_n 0 d_X12_fitAll_27 rfl rfl rfl) ?_
    refine gg_st (go_getI (j := 49) cf12 sM_0 rfl (by decide) fl_X12_261 d_X12_fitAll_28 rfl) ?_
    refine gg_br (br_icmp_ge (tgt := 85) (pc' := 34) d_X12_fitAll_31 (by decide) rfl) (fun h10 => ?_) (fun h10 => ?_)
    · refine gg_st (go_iconst d_X12_fitAll_34 ci_0 rfl) ?_
      refine gg_st (go_istore_n 3 d_X12_fitAll_35 rfl (by decide) (L' := [some (.ref (0)), some (.int v8), some (.int v9), some (.int (0 : Int32))]) rfl rfl) ?_
      refine gg_bind 79 (fun (t22 : Int32 × St) => [some (.ref (0)), some (.int t22.1), some (.int v9), none]) (fun (t22 : Int32 × St) => []) (fun (t22 : Int32 × St) => t22.2) (g_f_X12_fitAll_L36 l w F v9 F v8 (0 : Int32) g) (fun t22 => ?_)
      refine gg_st (go_iinc 2 d_X12_fitAll_79 rfl (v := v9 + (1 : Int32)) (by rw [ci_1]) (by decide) (L' := [some (.ref (0)), some (.int t22.1), some (.int (v9 + (1 : Int32))), none]) rfl rfl) ?_
      refine gg_st (go_goto (pc' := 26) d_X12_fitAll_82 (by decide)) ?_
      exact ih t22.1 (v9 + (1 : Int32)) t22.2
    · refine gg_st (go_fg [none, some (.int v8), none, none] ⟨rfl, trivial⟩) ?_
      exact gg_end rfl
set_option maxRecDepth 20000 in
theorem k_X12_fitAll (l : Launch) (w : Wo) (F : Nat) (σ : St) : K l w shM m_X12_fitAll 3 [.ref (0)] σ (f_X12_fitAll F σ) (rIS) := by
  refine k_of (L := [some (.ref (0)), none, none, none]) (plainFor_of_name (by decide +kernel)) 3 rfl (Nat.le_of_ble_eq_true rfl) ?_
  unfold f_X12_fitAll
  refine gg_st (go_iconst d_X12_fitAll_0 ci_0 rfl) ?_
  refine gg_st (go_istore_n 1 d_X12_fitAll_1 rfl (by decide) (L' := [some (.ref (0)), some (.int (0 : Int32)), none, none]) rfl rfl) ?_
  refine gg_bind 22 (fun (t7 : St) => [some (.ref (0)), none, none, none]) (fun (t7 : St) => []) (fun (t7 : St) => t7) (g_f_X12_fitAll_L2 l w F F (0 : Int32) σ) (fun t7 => ?_)
  refine gg_st (go_iconst d_X12_fitAll_22 ci_1 rfl) ?_
  refine gg_st (go_istore_n 1 d_X12_fitAll_23 rfl (by decide) (L' := [some (.ref (0)), some (.int (1 : Int32)), none, none]) rfl rfl) ?_
  refine gg_st (go_iconst d_X12_fitAll_24 ci_0 rfl) ?_
  refine gg_st (go_istore_n 2 d_X12_fitAll_25 rfl (by decide) (L' := [some (.ref (0)), some (.int (1 : Int32)), some (.int (0 : Int32)), none]) rfl rfl) ?_
  refine gg_bind 85 (fun (t23 : Int32 × St) => [none, some (.int t23.1), none, none]) (fun (t23 : Int32 × St) => []) (fun (t23 : Int32 × St) => t23.2) (g_f_X12_fitAll_L26 l w F F (1 : Int32) (0 : Int32) t7) (fun t23 => ?_)
  refine gg_st (go_iload_n 1 d_X12_fitAll_85 rfl rfl rfl) ?_
  refine gg_gd (fun h24 => ?_)
  exact gg_zret h24 rfl d_X12_fitAll_86 rfl
def f_X12_fitSides_L11 (F : Nat) (c2 : Int32) : Nat → Int32 → Int32 → St → Option (Int32 × St)
  | 0, _, _, _ => none
  | n + 1, v4, v5, g =>
    if inb c2 2 then (
      if inb (g.1 (32) (ix c2)) 16 then (
        if v5 < (g.1 (18) (ix (g.1 (32) (ix c2)))) then (
          Option.bind (f_X12_fits F (((1200 : Int32) + ((5 : Int32) * c2)) + v5) g) fun x9 =>
          Option.bind (
            if (x9.1 = 0) ∨ (v4 = 0) then (
              some (0 : Int32))
            else (
              some (1 : Int32))) fun t10 =>
          f_X12_fitSides_L11 F c2 n t10 (v5 + (1 : Int32)) x9.2)
        else (
          some (v4, g)))
      else none)
    else none
def f_X12_fitSides_L4 (F : Nat) : Nat → Int32 → Int32 → St → Option (Int32 × St)
  | 0, _, _, _ => none
  | n + 1, v1, v2, g =>
    if v2 < (2 : Int32) then (
      Option.bind (f_X12_fitSides_L11 F v2 F v1 (1 : Int32) g) fun t15 =>
      f_X12_fitSides_L4 F n t15.1 (v2 + (1 : Int32)) t15.2)
    else (
      some (v1, g))
def f_X12_fitSides (F : Nat) (σ : St) : Option (Int32 × St) :=
  Option.bind (f_X12_fitSides_L4 F F (1 : Int32) (0 : Int32) σ) fun t16 =>
  if t16.1 = 0 ∨ t16.1 = 1 then some (t16.1, t16.2) else none
set_option maxRecDepth 20000 in
theorem g_f_X12_fitSides_L11 (l : Launch) (w : Wo) (F : Nat) (c2 : Int32) : ∀ (n : Nat) (v4 : Int32) (v5 : Int32) (g : St), GG l w shM m_X12_fitSides 3 11 [some (.ref (0)), some (.int v4), some (.int c2), some (.int v5)] [] g (f_X12_fitSides_L11 F c2 n v4 v5 g) (fun (t : Int32 × St) => .inl (58, [some (.ref (0)), some (.int t.1), some (.int c2), none], [], t.2)) := by
  intro n
  induction n with
  | zero =>
    intro v4 v5 g
    exact gg_none
  | succ n ih =>
    intro v4 v5 g
    rw [f_X12_fitSides_L11]
    refine gg_st (go_iload_n 3 d_X12_fitSides_11 rfl rfl rfl) ?_
    refine gg_st (go_aload_n 0 d_X12_fitSides_12 rfl rfl rfl) ?_
    refine gg_st (go_getR (j := 38) cf12 sM_0 rfl (by decide) fl_X12_71 d_X12_fitSides_13 rfl) ?_
    refine gg_st (go_aload_n 0 d_X12_fitSides_16 rfl rfl rfl) ?_
    refine gg_st (go_getR (j := 57) cf12 sM_0 rfl (by decide) fl_X12_113 d_X12_fitSides_17 rfl) ?_
    refine gg_st (go_iload_n 2 d_X12_fitSides_20 rfl rfl rfl) ?_
    refine gg_gd (fun h6 => ?_)
    refine gg_st (go_iald sM_32 h6 d_X12_fitSides_21 rfl) ?_
    refine gg_gd (fun h7 => ?_)
    refine gg_st (go_iald sM_18 h7 d_X12_fitSides_22 rfl) ?_
    refine gg_br (br_icmp_ge (tgt := 58) (pc' := 26) d_X12_fitSides_23 (by decide) rfl) (fun h8 => ?_) (fun h8 => ?_)
    · refine gg_st (go_aload_n 0 d_X12_fitSides_26 rfl rfl rfl) ?_
      refine gg_st (go_sipush d_X12_fitSides_27 cs_1200 rfl) ?_
      refine gg_st (go_iconst d_X12_fitSides_30 ci_5 rfl) ?_
      refine gg_st (go_iload_n 2 d_X12_fitSides_31 rfl rfl rfl) ?_
      refine gg_st (go_imul d_X12_fitSides_32 rfl) ?_
      refine gg_st (go_iadd d_X12_fitSides_33 rfl) ?_
      refine gg_st (go_iload_n 3 d_X12_fitSides_34 rfl rfl rfl) ?_
      refine gg_st (go_iadd d_X12_fitSides_35 rfl) ?_
      refine gv_IS (k_X12_fits l w F (((1200 : Int32) + ((5 : Int32) * c2)) + v5) g) cv_X12_293 sM_0 (Nat.le_of_ble_eq_true rfl) rfl rfl (Nat.le_of_ble_eq_true rfl) d_X12_fitSides_36 rfl (fun x9 => ?_)
      refine gg_bind 51 (fun (t10 : Int32) => [some (.ref (0)), none, some (.int c2), some (.int v5)]) (fun (t10 : Int32) => [.int t10]) (fun (t10 : Int32) => x9.2) ?_ (fun t10 => ?_)
      · refine gg_two (c := (x9.1 = 0) ∨ (v4 = 0)) (pA := 50) (pB := 46) (LL := [some (.ref (0)), some (.int v4), some (.int c2), some (.int v5)]) (ss := []) ?_ ?_ (fun hA11 hB12 => ?_)
        · refine gg_st (go_iconst d_X12_fitSides_50 ci_0 rfl) ?_
          refine gg_st (go_fg [some (.ref (0)), none, some (.int c2), some (.int v5)] ⟨rfl, ⟨rfl, ⟨rfl, trivial⟩⟩⟩) ?_
          exact gg_end rfl
        · refine gg_st (go_iconst d_X12_fitSides_46 ci_1 rfl) ?_
          refine gg_st (go_goto (pc' := 51) d_X12_fitSides_47 (by decide)) ?_
          refine gg_st (go_fg [some (.ref (0)), none, some (.int c2), some (.int v5)] ⟨rfl, ⟨rfl, ⟨rfl, trivial⟩⟩⟩) ?_
          exact gg_end rfl
        refine gg_brs (br_if_eq (tgt := 50) (pc' := 42) d_X12_fitSides_39 (by decide) rfl) (fun h13 => ?_) (fun h13 => ?_)
        · exact gg_eq (if_pos (Or.inl h13)) hA11
        · refine gg_st (go_iload_n 1 d_X12_fitSides_42 rfl rfl rfl) ?_
          refine gg_brs (br_if_eq (tgt := 50) (pc' := 46) d_X12_fitSides_43 (by decide) rfl) (fun h14 => ?_) (fun h14 => ?_)
          · exact gg_eq (if_pos (Or.inr h14)) hA11
          · exact gg_eq (if_neg (fun z => z.elim h13 h14)) hB12
      · refine gg_st (go_istore_n 1 d_X12_fitSides_51 rfl (by decide) (L' := [some (.ref (0)), some (.int t10), some (.int c2), some (.int v5)]) rfl rfl) ?_
        refine gg_st (go_iinc 3 d_X12_fitSides_52 rfl (v := v5 + (1 : Int32)) (by rw [ci_1]) (by decide) (L' := [some (.ref (0)), some (.int t10), some (.int c2), some (.int (v5 + (1 : Int32)))]) rfl rfl) ?_
        refine gg_st (go_goto (pc' := 11) d_X12_fitSides_55 (by decide)) ?_
        exact ih t10 (v5 + (1 : Int32)) x9.2
    · refine gg_st (go_fg [some (.ref (0)), some (.int v4), some (.int c2), none] ⟨rfl, ⟨rfl, ⟨rfl, trivial⟩⟩⟩) ?_
      exact gg_end rfl
set_option maxRecDepth 20000 in
theorem g_f_X12_fitSides_L4 (l : Launch) (w : Wo) (F : Nat) : ∀ (n : Nat) (v1 : Int32) (v2 : Int32) (g : St), GG l w shM m_X12_fitSides 3 4 [some (.ref (0)), some (.int v1), some (.int v2), none] [] g (f_X12_fitSides_L4 F n v1 v2 g) (fun (t : Int32 × St) => .inl (64, [none, some (.int t.1), none, none], [], t.2)) := by
  intro n
  induction n with
  | zero =>
    intro v1 v2 g
    exact gg_none
  | succ n ih =>
    intro v1 v2 g
    rw [f_X12_fitSides_L4]
    refine gg_st (go_iload_n 2 d_X12_fitSides_4 rfl rfl rfl) ?_
    refine gg_st (go_iconst d_X12_fitSides_5 ci_2 rfl) ?_
    refine gg_br (br_icmp_ge (tgt := 64) (pc' := 9) d_X12_fitSides_6 (by decide) rfl) (fun h3 => ?_) (fun h3 => ?_)
    · refine gg_st (go_iconst d_X12_fitSides_9 ci_1 rfl) ?_
      refine gg_st (go_istore_n 3 d_X12_fitSides_10 rfl (by decide) (L' := [some (.ref (0)), some (.int v1), some (.int v2), some (.int (1 : Int32))]) rfl rfl) ?_
      refine gg_bind 58 (fun (t15 : Int32 × St) => [some (.ref (0)), some (.int t15.1), some (.int v2), none]) (fun (t15 : Int32 × St) => []) (fun (t15 : Int32 × St) => t15.2) (g_f_X12_fitSides_L11 l w F v2 F v1 (1 : Int32) g) (fun t15 => ?_)
      refine gg_st (go_iinc 2 d_X12_fitSides_58 rfl (v := v2 + (1 : Int32)) (by rw [ci_1]) (by decide) (L' := [some (.ref (0)), some (.int t15.1), some (.int (v2 + (1 : Int32))), none]) rfl rfl) ?_
      refine gg_st (go_goto (pc' := 4) d_X12_fitSides_61 (by decide)) ?_
      exact ih t15.1 (v2 + (1 : Int32)) t15.2
    · refine gg_st (go_fg [none, some (.int v1), none, none] ⟨rfl, trivial⟩) ?_
      exact gg_end rfl
set_option maxRecDepth 20000 in
theorem k_X12_fitSides (l : Launch) (w : Wo) (F : Nat) (σ : St) : K l w shM m_X12_fitSides 3 [.ref (0)] σ (f_X12_fitSides F σ) (rIS) := by
  refine k_of (L := [some (.ref (0)), none, none, none]) (plainFor_of_name (by decide +kernel)) 3 rfl (Nat.le_of_ble_eq_true rfl) ?_
  unfold f_X12_fitSides
  refine gg_st (go_iconst d_X12_fitSides_0 ci_1 rfl) ?_
  refine gg_st (go_istore_n 1 d_X12_fitSides_1 rfl (by decide) (L' := [some (.ref (0)), some (.int (1 : Int32)), none, none]) rfl rfl) ?_
  refine gg_st (go_iconst d_X12_fitSides_2 ci_0 rfl) ?_
  refine gg_st (go_istore_n 2 d_X12_fitSides_3 rfl (by decide) (L' := [some (.ref (0)), some (.int (1 : Int32)), some (.int (0 : Int32)), none]) rfl rfl) ?_
  refine gg_bind 64 (fun (t16 : Int32 × St) => [none, some (.int t16.1), none, none]) (fun (t16 : Int32 × St) => []) (fun (t16 : Int32 × St) => t16.2) (g_f_X12_fitSides_L4 l w F F (1 : Int32) (0 : Int32) σ) (fun t16 => ?_)
  refine gg_st (go_iload_n 1 d_X12_fitSides_64 rfl rfl rfl) ?_
  refine gg_gd (fun h17 => ?_)
  exact gg_zret h17 rfl d_X12_fitSides_65 rfl
def f_X12_isFigure (p1 : Int32) : Int32 :=
  if ((48 : Int32) ≤ p1) ∧ (p1 ≤ (57 : Int32)) then (
    (1 : Int32))
  else (
    (0 : Int32))
set_option maxRecDepth 20000 in
theorem k_X12_isFigure (l : Launch) (w : Wo) (p1 : Int32) (σ : St) : K l w shM m_X12_isFigure 1 [.int p1] σ (some (f_X12_isFigure p1)) (rI σ) := by
  refine k_of (L := [some (.int p1)]) (plainFor_of_name (by decide +kernel)) 0 rfl (Nat.le_of_ble_eq_true rfl) ?_
  unfold f_X12_isFigure
  refine gg_st (go_iload_n 0 d_X12_isFigure_0 rfl rfl rfl) ?_
  refine gg_st (go_bipush d_X12_isFigure_1 cb_48 rfl) ?_
  refine gg_twov (c := ((48 : Int32) ≤ p1) ∧ (p1 ≤ (57 : Int32))) (pA := 12) (pB := 16) (LL := [some (.int p1)]) (ss := []) ?_ ?_ (fun hA1 hB2 => ?_)
  · refine gg_st (go_iconst d_X12_isFigure_12 ci_1 rfl) ?_
    refine gg_st (go_goto (pc' := 17) d_X12_isFigure_13 (by decide)) ?_
    exact gg_zret (Or.inr rfl) rfl d_X12_isFigure_17 rfl
  · refine gg_st (go_iconst d_X12_isFigure_16 ci_0 rfl) ?_
    exact gg_zret (Or.inl rfl) rfl d_X12_isFigure_17 rfl
  refine gg_brs (br_icmp_lt (tgt := 16) (pc' := 6) d_X12_isFigure_3 (by decide) rfl) (fun h3 => ?_) (fun h3 => ?_)
  · refine gg_st (go_iload_n 0 d_X12_isFigure_6 rfl rfl rfl) ?_
    refine gg_st (go_bipush d_X12_isFigure_7 cb_57 rfl) ?_
    refine gg_brs (br_icmp_gt (tgt := 16) (pc' := 12) d_X12_isFigure_9 (by decide) rfl) (fun h4 => ?_) (fun h4 => ?_)
    · exact gg_eq (congrArg some (if_pos ⟨h3, h4⟩)) hA1
    · exact gg_eq (congrArg some (if_neg (fun z => h4 z.2))) hB2
  · exact gg_eq (congrArg some (if_neg (fun z => h3 z.1))) hB2
def f_X12_isGreat (p1 : Int32) : Int32 :=
  if ((65 : Int32) ≤ p1) ∧ (p1 ≤ (90 : Int32)) then (
    (1 : Int32))
  else (
    (0 : Int32))
set_option maxRecDepth 20000 in
theorem k_X12_isGreat (l : Launch) (w : Wo) (p1 : Int32) (σ : St) : K l w shM m_X12_isGreat 1 [.int p1] σ (some (f_X12_isGreat p1)) (rI σ) := by
  refine k_of (L := [some (.int p1)]) (plainFor_of_name (by decide +kernel)) 0 rfl (Nat.le_of_ble_eq_true rfl) ?_
  unfold f_X12_isGreat
  refine gg_st (go_iload_n 0 d_X12_isGreat_0 rfl rfl rfl) ?_
  refine gg_st (go_bipush d_X12_isGreat_1 cb_65 rfl) ?_
  refine gg_twov (c := ((65 : Int32) ≤ p1) ∧ (p1 ≤ (90 : Int32))) (pA := 12) (pB := 16) (LL := [some (.int p1)]) (ss := []) ?_ ?_ (fun hA1 hB2 => ?_)
  · refine gg_st (go_iconst d_X12_isGreat_12 ci_1 rfl) ?_
    refine gg_st (go_goto (pc' := 17) d_X12_isGreat_13 (by decide)) ?_
    exact gg_zret (Or.inr rfl) rfl d_X12_isGreat_17 rfl
  · refine gg_st (go_iconst d_X12_isGreat_16 ci_0 rfl) ?_
    exact gg_zret (Or.inl rfl) rfl d_X12_isGreat_17 rfl
  refine gg_brs (br_icmp_lt (tgt := 16) (pc' := 6) d_X12_isGreat_3 (by decide) rfl) (fun h3 => ?_) (fun h3 => ?_)
  · refine gg_st (go_iload_n 0 d_X12_isGreat_6 rfl rfl rfl) ?_
    refine gg_st (go_bipush d_X12_isGreat_7 cb_90 rfl) ?_
    refine gg_brs (br_icmp_gt (tgt := 16) (pc' := 12) d_X12_isGreat_9 (by decide) rfl) (fun h4 => ?_) (fun h4 => ?_)
    · exact gg_eq (congrArg some (if_pos ⟨h3, h4⟩)) hA1
    · exact gg_eq (congrArg some (if_neg (fun z => h4 z.2))) hB2
  · exact gg_eq (congrArg some (if_neg (fun z => h3 z.1))) hB2
def f_X12_isSign (p1 : Int32) (σ : St) : Int32 :=
  if ((σ.1 (0) 29) = (3 : Int32)) ∧ ((σ.1 (0) 34) = p1) then (
    (1 : Int32))
  else (
    (0 : Int32))
set_option maxRecDepth 20000 in
theorem k_X12_isSign (l : Launch) (w : Wo) (p1 : Int32) (σ : St) : K l w shM m_X12_isSign 1 [.ref (0), .int p1] σ (some (f_X12_isSign p1 σ)) (rI σ) := by
  refine k_of (L := [some (.ref (0)), some (.int p1)]) (plainFor_of_name (by decide +kernel)) 0 rfl (Nat.le_of_ble_eq_true rfl) ?_
  unfold f_X12_isSign
  refine gg_st (go_aload_n 0 d_X12_isSign_0 rfl rfl rfl) ?_
  refine gg_st (go_getI (j := 29) cf12 sM_0 rfl (by decide) fl_X12_205 d_X12_isSign_1 rfl) ?_
  refine gg_st (go_iconst d_X12_isSign_4 ci_3 rfl) ?_
  refine gg_twov (c := ((σ.1 (0) 29) = (3 : Int32)) ∧ ((σ.1 (0) 34) = p1)) (pA := 16) (pB := 20) (LL := [some (.ref (0)), some (.int p1)]) (ss := []) ?_ ?_ (fun hA1 hB2 => ?_)
  · refine gg_st (go_iconst d_X12_isSign_16 ci_1 rfl) ?_
    refine gg_st (go_goto (pc' := 21) d_X12_isSign_17 (by decide)) ?_
    exact gg_zret (Or.inr rfl) rfl d_X12_isSign_21 rfl
  · refine gg_st (go_iconst d_X12_isSign_20 ci_0 rfl) ?_
    exact gg_zret (Or.inl rfl) rfl d_X12_isSign_21 rfl
  refine gg_brs (br_icmp_ne (tgt := 20) (pc' := 8) d_X12_isSign_5 (by decide) rfl) (fun h3 => ?_) (fun h3 => ?_)
  · refine gg_st (go_aload_n 0 d_X12_isSign_8 rfl rfl rfl) ?_
    refine gg_st (go_getI (j := 34) cf12 sM_0 rfl (by decide) fl_X12_222 d_X12_isSign_9 rfl) ?_
    refine gg_st (go_iload_n 1 d_X12_isSign_12 rfl rfl rfl) ?_
    refine gg_brs (br_icmp_ne (tgt := 20) (pc' := 16) d_X12_isSign_13 (by decide) rfl) (fun h4 => ?_) (fun h4 => ?_)
    · exact gg_eq (congrArg some (if_pos ⟨h3, h4⟩)) hA1
    · exact gg_eq (congrArg some (if_neg (fun z => h4 z.2))) hB2
  · exact gg_eq (congrArg some (if_neg (fun z => h3 z.1))) hB2
