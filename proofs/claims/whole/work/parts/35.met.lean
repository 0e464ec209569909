def f_X12_takeWord_L20 (F : Nat) (c3 : Int32) : Nat → Int32 → St → Option (Int32 × St)
  | 0, _, _ => none
  | n + 1, v5, g =>
    Option.bind (f_X12_byteAt (g.1 (0) 31) g) fun x6 =>
    Option.bind (some (f_X12_isSmall x6)) fun x7 =>
    Option.bind (some (fun (t8 : Unit) =>
      Option.bind (
        Option.bind (some (fun (t11 : Unit) =>
          some (0 : Int32))) fun jp12 =>
        if v5 = 0 then (
          jp12 ())
        else (
          Option.bind (f_X12_byteAt (g.1 (0) 31) g) fun x14 =>
          Option.bind (some (f_X12_isGreat x14)) fun x15 =>
          if x15 = 0 then (
            some (1 : Int32))
          else (
            jp12 ()))) fun t10 =>
      Option.bind (
        if (g.1 (0) 33) < (8 : Int32) then (
          Option.bind (f_X12_byteAt (g.1 (0) 31) g) fun x19 =>
          some (((g.2 (0) 32) <<< ((8 : Int32).toInt64 &&& 63)) ||| (x19.toInt64)))
        else (
          some (g.2 (0) 32))) fun t17 =>
      Option.bind (some (setl g (0) 32 t17)) fun s20 =>
      Option.bind (some (seti s20 (0) 33 ((s20.1 (0) 33) + (1 : Int32)))) fun s21 =>
      Option.bind (some (seti s21 (0) 31 ((s21.1 (0) 31) + (1 : Int32)))) fun s22 =>
      f_X12_takeWord_L20 F c3 n t10 s22)) fun jp9 =>
    if x7 = 0 then (
      Option.bind (f_X12_byteAt (g.1 (0) 31) g) fun x24 =>
      Option.bind (some (f_X12_isGreat x24)) fun x25 =>
      if x25 = 0 then (
        Option.bind (f_X12_byteAt (g.1 (0) 31) g) fun x27 =>
        Option.bind (some (f_X12_isFigure x27)) fun x28 =>
        if x28 = 0 then (
          some (v5, g))
        else (
          jp9 ()))
      else (
        jp9 ()))
    else (
      jp9 ())
def f_X12_takeWord (F : Nat) (p1 : Int32) (σ : St) : Option (St) :=
  Option.bind (some (setl σ (0) 32 (0 : Int64))) fun s1 =>
  Option.bind (some (seti s1 (0) 33 (0 : Int32))) fun s2 =>
  Option.bind (some (f_X12_isSmall p1)) fun x3 =>
  Option.bind (some (f_X12_isGreat p1)) fun x4 =>
  Option.bind (f_X12_takeWord_L20 F x4 F x3 s2) fun t30 =>
  Option.bind (
    if (8 : Int32) < (t30.2.1 (0) 33) then (
      some (6 : Int32))
    else (
      if t30.1 = 0 then (
        if x4 = 0 then (
          some (6 : Int32))
        else (
          some (2 : Int32)))
      else (
        some (1 : Int32)))) fun t31 =>
  Option.bind (some (seti t30.2 (0) 29 t31)) fun s35 =>
  some s35
set_option maxRecDepth 20000 in
theorem g_f_X12_takeWord_L20 (l : Launch) (w : Wo) (F : Nat) (c3 : Int32) : ∀ (n : Nat) (v5 : Int32) (g : St), GG l w shM m_X12_takeWord 2 20 [some (.ref (0)), none, some (.int v5), some (.int c3)] [] g (f_X12_takeWord_L20 F c3 n v5 g) (fun (t : Int32 × St) => .inl (146, [some (.ref (0)), none, some (.int t.1), some (.int c3)], [], t.2)) := by
  intro n
  induction n with
  | zero =>
    intro v5 g
    exact gg_none
  | succ n ih =>
    intro v5 g
    rw [f_X12_takeWord_L20]
    refine gg_st (go_aload_n 0 d_X12_takeWord_20 rfl rfl rfl) ?_
    refine gg_st (go_aload_n 0 d_X12_takeWord_21 rfl rfl rfl) ?_
    refine gg_st (go_getI (j := 31) cf12 sM_0 rfl (by decide) fl_X12_195 d_X12_takeWord_22 rfl) ?_
    refine gv_I (k_X12_byteAt l w (g.1 (0) 31) g) cv_X12_198 sM_0 (Nat.le_of_ble_eq_true rfl) rfl rfl (Nat.le_of_ble_eq_true rfl) d_X12_takeWord_25 rfl (fun x6 => ?_)
    refine gs_I (k_X12_isSmall l w x6 g) cs_X12_208 (Nat.le_of_ble_eq_true rfl) rfl rfl (Nat.le_of_ble_eq_true rfl) d_X12_takeWord_28 rfl (fun x7 => ?_)
    refine gg_jp 62 (fun (t8 : Unit) => [some (.ref (0)), none, some (.int v5), some (.int c3)]) (fun (t8 : Unit) => []) (fun (t8 : Unit) => g) (fun t8 => ?_) (fun jp9 hjp9 => ?_)
    · refine gg_st (go_iload_n 2 d_X12_takeWord_62 rfl rfl rfl) ?_
      refine gg_bind 85 (fun (t10 : Int32) => [some (.ref (0)), none, none, some (.int c3)]) (fun (t10 : Int32) => [.int t10]) (fun (t10 : Int32) => g) ?_ (fun t10 => ?_)
      · refine gg_jp 84 (fun (t11 : Unit) => [some (.ref (0)), none, none, some (.int c3)]) (fun (t11 : Unit) => []) (fun (t11 : Unit) => g) (fun t11 => ?_) (fun jp12 hjp12 => ?_)
        · refine gg_st (go_iconst d_X12_takeWord_84 ci_0 rfl) ?_
          exact gg_end rfl
        refine gg_br (br_if_eq (tgt := 84) (pc' := 66) d_X12_takeWord_63 (by decide) rfl) (fun h13 => ?_) (fun h13 => ?_)
        · refine gg_st (go_fg [some (.ref (0)), none, none, some (.int c3)] ⟨rfl, ⟨rfl, trivial⟩⟩) ?_
          exact hjp12 ()
        · refine gg_st (go_aload_n 0 d_X12_takeWord_66 rfl rfl rfl) ?_
          refine gg_st (go_aload_n 0 d_X12_takeWord_67 rfl rfl rfl) ?_
          refine gg_st (go_getI (j := 31) cf12 sM_0 rfl (by decide) fl_X12_195 d_X12_takeWord_68 rfl) ?_
          refine gv_I (k_X12_byteAt l w (g.1 (0) 31) g) cv_X12_198 sM_0 (Nat.le_of_ble_eq_true rfl) rfl rfl (Nat.le_of_ble_eq_true rfl) d_X12_takeWord_71 rfl (fun x14 => ?_)
          refine gs_I (k_X12_isGreat l w x14 g) cs_X12_212 (Nat.le_of_ble_eq_true rfl) rfl rfl (Nat.le_of_ble_eq_true rfl) d_X12_takeWord_74 rfl (fun x15 => ?_)
          refine gg_br (br_if_ne (tgt := 84) (pc' := 80) d_X12_takeWord_77 (by decide) rfl) (fun h16 => ?_) (fun h16 => ?_)
          · refine gg_st (go_iconst d_X12_takeWord_80 ci_1 rfl) ?_
            refine gg_st (go_goto (pc' := 85) d_X12_takeWord_81 (by decide)) ?_
            refine gg_st (go_fg [some (.ref (0)), none, none, some (.int c3)] ⟨rfl, ⟨rfl, trivial⟩⟩) ?_
            exact gg_end rfl
          · refine gg_st (go_fg [some (.ref (0)), none, none, some (.int c3)] ⟨rfl, ⟨rfl, trivial⟩⟩) ?_
            exact hjp12 ()
      · refine gg_st (go_istore_n 2 d_X12_takeWord_85 rfl (by decide) (L' := [some (.ref (0)), none, some (.int t10), some (.int c3)]) rfl rfl) ?_
        refine gg_st (go_aload_n 0 d_X12_takeWord_86 rfl rfl rfl) ?_
        refine gg_st (go_aload_n 0 d_X12_takeWord_87 rfl rfl rfl) ?_
        refine gg_st (go_getI (j := 33) cf12 sM_0 rfl (by decide) fl_X12_228 d_X12_takeWord_88 rfl) ?_
        refine gg_st (go_bipush d_X12_takeWord_91 cb_8 rfl) ?_
        refine gg_bind 120 (fun (t17 : Int64) => [some (.ref (0)), none, some (.int t10), some (.int c3)]) (fun (t17 : Int64) => [.long t17, .ref (0)]) (fun (t17 : Int64) => g) ?_ (fun t17 => ?_)
        · refine gg_br (br_icmp_ge (tgt := 116) (pc' := 96) d_X12_takeWord_93 (by decide) rfl) (fun h18 => ?_) (fun h18 => ?_)
          · refine gg_st (go_aload_n 0 d_X12_takeWord_96 rfl rfl rfl) ?_
            refine gg_st (go_getL (j := 32) cf12 sM_0 rfl (by decide) fl_X12_225 d_X12_takeWord_97 rfl) ?_
            refine gg_st (go_bipush d_X12_takeWord_100 cb_8 rfl) ?_
            refine gg_st (go_lshl d_X12_takeWord_102 rfl) ?_
            refine gg_st (go_aload_n 0 d_X12_takeWord_103 rfl rfl rfl) ?_
            refine gg_st (go_aload_n 0 d_X12_takeWord_104 rfl rfl rfl) ?_
            refine gg_st (go_getI (j := 31) cf12 sM_0 rfl (by decide) fl_X12_195 d_X12_takeWord_105 rfl) ?_
            refine gv_I (k_X12_byteAt l w (g.1 (0) 31) g) cv_X12_198 sM_0 (Nat.le_of_ble_eq_true rfl) rfl rfl (Nat.le_of_ble_eq_true rfl) d_X12_takeWord_108 rfl (fun x19 => ?_)
            refine gg_st (go_i2l d_X12_takeWord_111 rfl) ?_
            refine gg_st (go_lor d_X12_takeWord_112 rfl) ?_
            refine gg_st (go_goto (pc' := 120) d_X12_takeWord_113 (by decide)) ?_
            exact gg_end rfl
          · refine gg_st (go_aload_n 0 d_X12_takeWord_116 rfl rfl rfl) ?_
            refine gg_st (go_getL (j := 32) cf12 sM_0 rfl (by decide) fl_X12_225 d_X12_takeWord_117 rfl) ?_
            exact gg_end rfl
        · refine gg_st (go_putL (j := 32) cf12 sM_0 rfl (by decide) rfl rfl fl_X12_225 d_X12_takeWord_120 rfl) ?_
          refine gg_som (fun s20 => ?_)
          refine gg_st (go_aload_n 0 d_X12_takeWord_123 rfl rfl rfl) ?_
          refine gg_st (go_dup d_X12_takeWord_124 rfl rfl) ?_
          refine gg_st (go_getI (j := 33) cf12 sM_0 rfl (by decide) fl_X12_228 d_X12_takeWord_125 rfl) ?_
          refine gg_st (go_iconst d_X12_takeWord_128 ci_1 rfl) ?_
          refine gg_st (go_iadd d_X12_takeWord_129 rfl) ?_
          refine gg_st (go_putI (j := 33) cf12 sM_0 rfl (by decide) rfl rfl fl_X12_228 d_X12_takeWord_130 rfl) ?_
          refine gg_som (fun s21 => ?_)
          refine gg_st (go_aload_n 0 d_X12_takeWord_133 rfl rfl rfl) ?_
          refine gg_st (go_dup d_X12_takeWord_134 rfl rfl) ?_
          refine gg_st (go_getI (j := 31) cf12 sM_0 rfl (by decide) fl_X12_195 d_X12_takeWord_135 rfl) ?_
          refine gg_st (go_iconst d_X12_takeWord_138 ci_1 rfl) ?_
          refine gg_st (go_iadd d_X12_takeWord_139 rfl) ?_
          refine gg_st (go_putI (j := 31) cf12 sM_0 rfl (by decide) rfl rfl fl_X12_195 d_X12_takeWord_140 rfl) ?_
          refine gg_som (fun s22 => ?_)
          refine gg_st (go_goto (pc' := 20) d_X12_takeWord_143 (by decide)) ?_
          exact ih t10 s22
    refine gg_br (br_if_ne (tgt := 62) (pc' := 34) d_X12_takeWord_31 (by decide) rfl) (fun h23 => ?_) (fun h23 => ?_)
    · refine gg_st (go_aload_n 0 d_X12_takeWord_34 rfl rfl rfl) ?_
      refine gg_st (go_aload_n 0 d_X12_takeWord_35 rfl rfl rfl) ?_
      refine gg_st (go_getI (j := 31) cf12 sM_0 rfl (by decide) fl_X12_195 d_X12_takeWord_36 rfl) ?_
      refine gv_I (k_X12_byteAt l w (g.1 (0) 31) g) cv_X12_198 sM_0 (Nat.le_of_ble_eq_true rfl) rfl rfl (Nat.le_of_ble_eq_true rfl) d_X12_takeWord_39 rfl (fun x24 => ?_)
      refine gs_I (k_X12_isGreat l w x24 g) cs_X12_212 (Nat.le_of_ble_eq_true rfl) rfl rfl (Nat.le_of_ble_eq_true rfl) d_X12_takeWord_42 rfl (fun x25 => ?_)
      refine gg_br (br_if_ne (tgt := 62) (pc' := 48) d_X12_takeWord_45 (by decide) rfl) (fun h26 => ?_) (fun h26 => ?_)
      · refine gg_st (go_aload_n 0 d_X12_takeWord_48 rfl rfl rfl) ?_
        refine gg_st (go_aload_n 0 d_X12_takeWord_49 rfl rfl rfl) ?_
        refine gg_st (go_getI (j := 31) cf12 sM_0 rfl (by decide) fl_X12_195 d_X12_takeWord_50 rfl) ?_
        refine gv_I (k_X12_byteAt l w (g.1 (0) 31) g) cv_X12_198 sM_0 (Nat.le_of_ble_eq_true rfl) rfl rfl (Nat.le_of_ble_eq_true rfl) d_X12_takeWord_53 rfl (fun x27 => ?_)
        refine gs_I (k_X12_isFigure l w x27 g) cs_X12_215 (Nat.le_of_ble_eq_true rfl) rfl rfl (Nat.le_of_ble_eq_true rfl) d_X12_takeWord_56 rfl (fun x28 => ?_)
        refine gg_br (br_if_eq (tgt := 146) (pc' := 62) d_X12_takeWord_59 (by decide) rfl) (fun h29 => ?_) (fun h29 => ?_)
        · exact gg_end rfl
        · exact hjp9 ()
      · exact hjp9 ()
    · exact hjp9 ()
set_option maxRecDepth 20000 in
theorem k_X12_takeWord (l : Launch) (w : Wo) (F : Nat) (p1 : Int32) (σ : St) : K l w shM m_X12_takeWord 2 [.ref (0), .int p1] σ (f_X12_takeWord F p1 σ) (rV) := by
  refine k_of (L := [some (.ref (0)), some (.int p1), none, none]) (plainFor_of_name (by decide +kernel)) 2 rfl (Nat.le_of_ble_eq_true rfl) ?_
  unfold f_X12_takeWord
  refine gg_st (go_aload_n 0 d_X12_takeWord_0 rfl rfl rfl) ?_
  refine gg_st (go_lconst d_X12_takeWord_1 (v := (0 : Int64)) (by decide) rfl) ?_
  refine gg_st (go_putL (j := 32) cf12 sM_0 rfl (by decide) rfl rfl fl_X12_225 d_X12_takeWord_2 rfl) ?_
  refine gg_som (fun s1 => ?_)
  refine gg_st (go_aload_n 0 d_X12_takeWord_5 rfl rfl rfl) ?_
  refine gg_st (go_iconst d_X12_takeWord_6 ci_0 rfl) ?_
  refine gg_st (go_putI (j := 33) cf12 sM_0 rfl (by decide) rfl rfl fl_X12_228 d_X12_takeWord_7 rfl) ?_
  refine gg_som (fun s2 => ?_)
  refine gg_st (go_iload_n 1 d_X12_takeWord_10 rfl rfl rfl) ?_
  refine gs_I (k_X12_isSmall l w p1 s2) cs_X12_208 (Nat.le_of_ble_eq_true rfl) rfl rfl (Nat.le_of_ble_eq_true rfl) d_X12_takeWord_11 rfl (fun x3 => ?_)
  refine gg_st (go_istore_n 2 d_X12_takeWord_14 rfl (by decide) (L' := [some (.ref (0)), some (.int p1), some (.int x3), none]) rfl rfl) ?_
  refine gg_st (go_iload_n 1 d_X12_takeWord_15 rfl rfl rfl) ?_
  refine gs_I (k_X12_isGreat l w p1 s2) cs_X12_212 (Nat.le_of_ble_eq_true rfl) rfl rfl (Nat.le_of_ble_eq_true rfl) d_X12_takeWord_16 rfl (fun x4 => ?_)
  refine gg_st (go_istore_n 3 d_X12_takeWord_19 rfl (by decide) (L' := [some (.ref (0)), some (.int p1), some (.int x3), some (.int x4)]) rfl rfl) ?_
  refine gg_st (go_fg [some (.ref (0)), none, some (.int x3), some (.int x4)] ⟨rfl, ⟨rfl, ⟨rfl, trivial⟩⟩⟩) ?_
  refine gg_bind 146 (fun (t30 : Int32 × St) => [some (.ref (0)), none, some (.int t30.1), some (.int x4)]) (fun (t30 : Int32 × St) => []) (fun (t30 : Int32 × St) => t30.2) (g_f_X12_takeWord_L20 l w F x4 F x3 s2) (fun t30 => ?_)
  refine gg_st (go_aload_n 0 d_X12_takeWord_146 rfl rfl rfl) ?_
  refine gg_st (go_aload_n 0 d_X12_takeWord_147 rfl rfl rfl) ?_
  refine gg_st (go_getI (j := 33) cf12 sM_0 rfl (by decide) fl_X12_228 d_X12_takeWord_148 rfl) ?_
  refine gg_st (go_bipush d_X12_takeWord_151 cb_8 rfl) ?_
  refine gg_bind 179 (fun (t31 : Int32) => [none, none, none, none]) (fun (t31 : Int32) => [.int t31, .ref (0)]) (fun (t31 : Int32) => t30.2) ?_ (fun t31 => ?_)
  · refine gg_br (br_icmp_le (tgt := 161) (pc' := 156) d_X12_takeWord_153 (by decide) rfl) (fun h32 => ?_) (fun h32 => ?_)
    · refine gg_st (go_bipush d_X12_takeWord_156 cb_6 rfl) ?_
      refine gg_st (go_goto (pc' := 179) d_X12_takeWord_158 (by decide)) ?_
      refine gg_st (go_fg [none, none, none, none] trivial) ?_
      exact gg_end rfl
    · refine gg_st (go_iload_n 2 d_X12_takeWord_161 rfl rfl rfl) ?_
      refine gg_br (br_if_eq (tgt := 169) (pc' := 165) d_X12_takeWord_162 (by decide) rfl) (fun h33 => ?_) (fun h33 => ?_)
      · refine gg_st (go_iload_n 3 d_X12_takeWord_169 rfl rfl rfl) ?_
        refine gg_br (br_if_eq (tgt := 177) (pc' := 173) d_X12_takeWord_170 (by decide) rfl) (fun h34 => ?_) (fun h34 => ?_)
        · refine gg_st (go_bipush d_X12_takeWord_177 cb_6 rfl) ?_
          refine gg_st (go_fg [none, none, none, none] trivial) ?_
          exact gg_end rfl
        · refine gg_st (go_iconst d_X12_takeWord_173 ci_2 rfl) ?_
          refine gg_st (go_goto (pc' := 179) d_X12_takeWord_174 (by decide)) ?_
          refine gg_st (go_fg [none, none, none, none] trivial) ?_
          exact gg_end rfl
      · refine gg_st (go_iconst d_X12_takeWord_165 ci_1 rfl) ?_
        refine gg_st (go_goto (pc' := 179) d_X12_takeWord_166 (by decide)) ?_
        refine gg_st (go_fg [none, none, none, none] trivial) ?_
        exact gg_end rfl
  · refine gg_st (go_putI (j := 29) cf12 sM_0 rfl (by decide) rfl rfl fl_X12_205 d_X12_takeWord_179 rfl) ?_
    refine gg_som (fun s35 => ?_)
    exact gg_vret rfl d_X12_takeWord_182 rfl
def f_X12_take_L0 (F : Nat) : Nat → St → Option (St)
  | 0, _ => none
  | n + 1, g =>
    Option.bind (f_X12_byteAt (g.1 (0) 31) g) fun x1 =>
    Option.bind (some (fun (t2 : Unit) =>
      Option.bind (some (seti g (0) 31 ((g.1 (0) 31) + (1 : Int32)))) fun s4 =>
      f_X12_take_L0 F n s4)) fun jp3 =>
    if x1 = (32 : Int32) then (
      jp3 ())
    else (
      Option.bind (f_X12_byteAt (g.1 (0) 31) g) fun x6 =>
      if x6 = (10 : Int32) then (
        jp3 ())
      else (
        some g))
def f_X12_take (F : Nat) (σ : St) : Option (St) :=
  Option.bind (f_X12_take_L0 F F σ) fun t8 =>
  Option.bind (some (seti t8 (0) 30 (t8.1 (0) 31))) fun s9 =>
  if (s9.1 (0) 1) ≤ (s9.1 (0) 31) then (
    Option.bind (some (seti s9 (0) 29 (5 : Int32))) fun s12 =>
    some s12)
  else (
    Option.bind (f_X12_byteAt (s9.1 (0) 31) s9) fun x13 =>
    Option.bind (some (f_X12_isSmall x13)) fun x14 =>
    if (x14 = 0) ∧ (((f_X12_isGreat x13) = 0) ∧ ((f_X12_isFigure x13) = 0)) then (
      Option.bind (some (seti s9 (0) 31 ((s9.1 (0) 31) + (1 : Int32)))) fun s16 =>
      Option.bind (some (seti s16 (0) 34 x13)) fun s17 =>
      Option.bind (some (fun (t18 : St) =>
        Option.bind (
          if (x13 = (40 : Int32)) ∨ ((x13 = (41 : Int32)) ∨ ((x13 = (44 : Int32)) ∨ ((x13 = (61 : Int32)) ∨ ((x13 = (59 : Int32)) ∨ ((x13 = (43 : Int32)) ∨ ((x13 = (45 : Int32)) ∨ (x13 = (58 : Int32)))))))) then (
            some (1 : Int32))
          else (
            some (0 : Int32))) fun t20 =>
        Option.bind (
          if t20 = 0 then (
            some (6 : Int32))
          else (
            some (3 : Int32))) fun t31 =>
        Option.bind (some (seti t18 (0) 29 t31)) fun s33 =>
        some s33)) fun jp19 =>
      if x13 = (62 : Int32) then (
        Option.bind (f_X12_byteAt (s17.1 (0) 31) s17) fun x35 =>
        if x35 = (60 : Int32) then (
          Option.bind (some (seti s17 (0) 31 ((s17.1 (0) 31) + (1 : Int32)))) fun s38 =>
          Option.bind (some (seti s38 (0) 29 (4 : Int32))) fun s39 =>
          some s39)
        else (
          jp19 s17))
      else (
        jp19 s17))
    else (
      Option.bind (f_X12_takeWord F x13 s9) fun s40 =>
      some s40))
set_option maxRecDepth 20000 in
theorem g_f_X12_take_L0 (l : Launch) (w : Wo) (F : Nat) : ∀ (n : Nat) (g : St), GG l w shM m_X12_take 3 0 [some (.ref (0)), none, none] [] g (f_X12_take_L0 F n g) (fun (t : St) => .inl (39, [some (.ref (0)), none, none], [], t)) := by
  intro n
  induction n with
  | zero =>
    intro g
    exact gg_none
  | succ n ih =>
    intro g
    rw [f_X12_take_L0]
    refine gg_st (go_aload_n 0 d_X12_take_0 rfl rfl rfl) ?_
    refine gg_st (go_aload_n 0 d_X12_take_1 rfl rfl rfl) ?_
    refine gg_st (go_getI (j := 31) cf12 sM_0 rfl (by decide) fl_X12_195 d_X12_take_2 rfl) ?_
    refine gv_I (k_X12_byteAt l w (g.1 (0) 31) g) cv_X12_198 sM_0 (Nat.le_of_ble_eq_true rfl) rfl rfl (Nat.le_of_ble_eq_true rfl) d_X12_take_5 rfl (fun x1 => ?_)
    refine gg_st (go_bipush d_X12_take_8 cb_32 rfl) ?_
    refine gg_jp 26 (fun (t2 : Unit) => [some (.ref (0)), none, none]) (fun (t2 : Unit) => []) (fun (t2 : Unit) => g) (fun t2 => ?_) (fun jp3 hjp3 => ?_)
    · refine gg_st (go_aload_n 0 d_X12_take_26 rfl rfl rfl) ?_
      refine gg_st (go_dup d_X12_take_27 rfl rfl) ?_
      refine gg_st (go_getI (j := 31) cf12 sM_0 rfl (by decide) fl_X12_195 d_X12_take_28 rfl) ?_
      refine gg_st (go_iconst d_X12_take_31 ci_1 rfl) ?_
      refine gg_st (go_iadd d_X12_take_32 rfl) ?_
      refine gg_st (go_putI (j := 31) cf12 sM_0 rfl (by decide) rfl rfl fl_X12_195 d_X12_take_33 rfl) ?_
      refine gg_som (fun s4 => ?_)
      refine gg_st (go_goto (pc' := 0) d_X12_take_36 (by decide)) ?_
      exact ih s4
    refine gg_br (br_icmp_eq (tgt := 26) (pc' := 13) d_X12_take_10 (by decide) rfl) (fun h5 => ?_) (fun h5 => ?_)
    · exact hjp3 ()
    · refine gg_st (go_aload_n 0 d_X12_take_13 rfl rfl rfl) ?_
      refine gg_st (go_aload_n 0 d_X12_take_14 rfl rfl rfl) ?_
      refine gg_st (go_getI (j := 31) cf12 sM_0 rfl (by decide) fl_X12_195 d_X12_take_15 rfl) ?_
      refine gv_I (k_X12_byteAt l w (g.1 (0) 31) g) cv_X12_198 sM_0 (Nat.le_of_ble_eq_true rfl) rfl rfl (Nat.le_of_ble_eq_true rfl) d_X12_take_18 rfl (fun x6 => ?_)
      refine gg_st (go_bipush d_X12_take_21 cb_10 rfl) ?_
      refine gg_br (br_icmp_ne (tgt := 39) (pc' := 26) d_X12_take_23 (by decide) rfl) (fun h7 => ?_) (fun h7 => ?_)
      · exact hjp3 ()
      · exact gg_end rfl
set_option maxRecDepth 20000 in
theorem k_X12_take (l : Launch) (w : Wo) (F : Nat) (σ : St) : K l w shM m_X12_take 3 [.ref (0)] σ (f_X12_take F σ) (rV) := by
  refine k_of (L := [some (.ref (0)), none, none]) (plainFor_of_name (by decide +kernel)) 2 rfl (Nat.le_of_ble_eq_true rfl) ?_
  unfold f_X12_take
  refine gg_bind 39 (fun (t8 : St) => [some (.ref (0)), none, none]) (fun (t8 : St) => []) (fun (t8 : St) => t8) (g_f_X12_take_L0 l w F F σ) (fun t8 => ?_)
  refine gg_st (go_aload_n 0 d_X12_take_39 rfl rfl rfl) ?_
  refine gg_st (go_aload_n 0 d_X12_take_40 rfl rfl rfl) ?_
  refine gg_st (go_getI (j := 31) cf12 sM_0 rfl (by decide) fl_X12_195 d_X12_take_41 rfl) ?_
  refine gg_st (go_putI (j := 30) cf12 sM_0 rfl (by decide) rfl rfl fl_X12_202 d_X12_take_44 rfl) ?_
  refine gg_som (fun s9 => ?_)
  refine gg_st (go_aload_n 0 d_X12_take_47 rfl rfl rfl) ?_
  refine gg_st (go_getI (j := 31) cf12 sM_0 rfl (by decide) fl_X12_195 d_X12_take_48 rfl) ?_
  refine gg_st (go_aload_n 0 d_X12_take_51 rfl rfl rfl) ?_
  refine gg_st (go_getI (j := 1) cf12 sM_0 rfl (by decide) fl_X12_188 d_X12_take_52 rfl) ?_
  refine gg_br (br_icmp_lt (tgt := 64) (pc' := 58) d_X12_take_55 (by decide) rfl) (fun h11 => ?_) (fun h11 => ?_)
  · refine gg_st (go_aload_n 0 d_X12_take_58 rfl rfl rfl) ?_
    refine gg_st (go_iconst d_X12_take_59 ci_5 rfl) ?_
    refine gg_st (go_putI (j := 29) cf12 sM_0 rfl (by decide) rfl rfl fl_X12_205 d_X12_take_60 rfl) ?_
    refine gg_som (fun s12 => ?_)
    exact gg_vret rfl d_X12_take_63 rfl
  · refine gg_st (go_aload_n 0 d_X12_take_64 rfl rfl rfl) ?_
    refine gg_st (go_aload_n 0 d_X12_take_65 rfl rfl rfl) ?_
    refine gg_st (go_getI (j := 31) cf12 sM_0 rfl (by decide) fl_X12_195 d_X12_take_66 rfl) ?_
    refine gv_I (k_X12_byteAt l w (s9.1 (0) 31) s9) cv_X12_198 sM_0 (Nat.le_of_ble_eq_true rfl) rfl rfl (Nat.le_of_ble_eq_true rfl) d_X12_take_69 rfl (fun x13 => ?_)
    refine gg_st (go_istore_n 1 d_X12_take_72 rfl (by decide) (L' := [some (.ref (0)), some (.int x13), none]) rfl rfl) ?_
    refine gg_st (go_iload_n 1 d_X12_take_73 rfl rfl rfl) ?_
    refine gs_I (k_X12_isSmall l w x13 s9) cs_X12_208 (Nat.le_of_ble_eq_true rfl) rfl rfl (Nat.le_of_ble_eq_true rfl) d_X12_take_74 rfl (fun x14 => ?_)
    refine gg_two (c := (x14 = 0) ∧ (((f_X12_isGreat x13) = 0) ∧ ((f_X12_isFigure x13) = 0))) (pA := 100) (pB := 94) (LL := [some (.ref (0)), some (.int x13), none]) (ss := []) ?_ ?_ (fun hA41 hB42 => ?_)
    · refine gg_st (go_aload_n 0 d_X12_take_100 rfl rfl rfl) ?_
      refine gg_st (go_dup d_X12_take_101 rfl rfl) ?_
      refine gg_st (go_getI (j := 31) cf12 sM_0 rfl (by decide) fl_X12_195 d_X12_take_102 rfl) ?_
      refine gg_st (go_iconst d_X12_take_105 ci_1 rfl) ?_
      refine gg_st (go_iadd d_X12_take_106 rfl) ?_
      refine gg_st (go_putI (j := 31) cf12 sM_0 rfl (by decide) rfl rfl fl_X12_195 d_X12_take_107 rfl) ?_
      refine gg_som (fun s16 => ?_)
      refine gg_st (go_aload_n 0 d_X12_take_110 rfl rfl rfl) ?_
      refine gg_st (go_iload_n 1 d_X12_take_111 rfl rfl rfl) ?_
      refine gg_st (go_putI (j := 34) cf12 sM_0 rfl (by decide) rfl rfl fl_X12_222 d_X12_take_112 rfl) ?_
      refine gg_som (fun s17 => ?_)
      refine gg_st (go_iload_n 1 d_X12_take_115 rfl rfl rfl) ?_
      refine gg_st (go_bipush d_X12_take_116 cb_62 rfl) ?_
      refine gg_jp 150 (fun (t18 : St) => [some (.ref (0)), some (.int x13), none]) (fun (t18 : St) => []) (fun (t18 : St) => t18) (fun t18 => ?_) (fun jp19 hjp19 => ?_)
      · refine gg_st (go_iload_n 1 d_X12_take_150 rfl rfl rfl) ?_
        refine gg_st (go_bipush d_X12_take_151 cb_40 rfl) ?_
        refine gg_bind 203 (fun (t20 : Int32) => [some (.ref (0)), none, none]) (fun (t20 : Int32) => [.int t20]) (fun (t20 : Int32) => t18) ?_ (fun t20 => ?_)
        · refine gg_two (c := (x13 = (40 : Int32)) ∨ ((x13 = (41 : Int32)) ∨ ((x13 = (44 : Int32)) ∨ ((x13 = (61 : Int32)) ∨ ((x13 = (59 : Int32)) ∨ ((x13 = (43 : Int32)) ∨ ((x13 = (45 : Int32)) ∨ (x13 = (58 : Int32))))))))) (pA := 198) (pB := 202) (LL := [some (.ref (0)), some (.int x13), none]) (ss := []) ?_ ?_ (fun hA21 hB22 => ?_)
          · refine gg_st (go_iconst d_X12_take_198 ci_1 rfl) ?_
            refine gg_st (go_goto (pc' := 203) d_X12_take_199 (by decide)) ?_
            refine gg_st (go_fg [some (.ref (0)), none, none] ⟨rfl, trivial⟩) ?_
            exact gg_end rfl
          · refine gg_st (go_iconst d_X12_take_202 ci_0 rfl) ?_
            refine gg_st (go_fg [some (.ref (0)), none, none] ⟨rfl, trivial⟩) ?_
            exact gg_end rfl
          refine gg_brs (br_icmp_eq (tgt := 198) (pc' := 156) d_X12_take_153 (by decide) rfl) (fun h23 => ?_) (fun h23 => ?_)
          · exact gg_eq (if_pos (Or.inl h23)) hA21
          · refine gg_st (go_iload_n 1 d_X12_take_156 rfl rfl rfl) ?_
            refine gg_st (go_bipush d_X12_take_157 cb_41 rfl) ?_
            refine gg_brs (br_icmp_eq (tgt := 198) (pc' := 162) d_X12_take_159 (by decide) rfl) (fun h24 => ?_) (fun h24 => ?_)
            · exact gg_eq (if_pos (Or.inr (Or.inl h24))) hA21
            · refine gg_st (go_iload_n 1 d_X12_take_162 rfl rfl rfl) ?_
              refine gg_st (go_bipush d_X12_take_163 cb_44 rfl) ?_
              refine gg_brs (br_icmp_eq (tgt := 198) (pc' := 168) d_X12_take_165 (by decide) rfl) (fun h25 => ?_) (fun h25 => ?_)
              · exact gg_eq (if_pos (Or.inr (Or.inr (Or.inl h25)))) hA21
              · refine gg_st (go_iload_n 1 d_X12_take_168 rfl rfl rfl) ?_
                refine gg_st (go_bipush d_X12_take_169 cb_61 rfl) ?_
                refine gg_brs (br_icmp_eq (tgt := 198) (pc' := 174) d_X12_take_171 (by decide) rfl) (fun h26 => ?_) (fun h26 => ?_)
                · exact gg_eq (if_pos (Or.inr (Or.inr (Or.inr (Or.inl h26))))) hA21
                · refine gg_st (go_iload_n 1 d_X12_take_174 rfl rfl rfl) ?_
                  refine gg_st (go_bipush d_X12_take_175 cb_59 rfl) ?_
                  refine gg_brs (br_icmp_eq (tgt := 198) (pc' := 180) d_X12_take_177 (by decide) rfl) (fun h27 => ?_) (fun h27 => ?_)
                  · exact gg_eq (if_pos (Or.inr (Or.inr (Or.inr (Or.inr (Or.inl h27)))))) hA21
                  · refine gg_st (go_iload_n 1 d_X12_take_180 rfl rfl rfl) ?_
                    refine gg_st (go_bipush d_X12_take_181 cb_43 rfl) ?_
                    refine gg_brs (br_icmp_eq (tgt := 198) (pc' := 186) d_X12_take_183 (by decide) rfl) (fun h28 => ?_) (fun h28 => ?_)
                    · exact gg_eq (if_pos (Or.inr (Or.inr (Or.inr (Or.inr (Or.inr (Or.inl h28))))))) hA21
                    · refine gg_st (go_iload_n 1 d_X12_take_186 rfl rfl rfl) ?_
                      refine gg_st (go_bipush d_X12_take_187 cb_45 rfl) ?_
                      refine gg_brs (br_icmp_eq (tgt := 198) (pc' := 192) d_X12_take_189 (by decide) rfl) (fun h29 => ?_) (fun h29 => ?_)
                      · exact gg_eq (if_pos (Or.inr (Or.inr (Or.inr (Or.inr (Or.inr (Or.inr (Or.inl h29)))))))) hA21
                      · refine gg_st (go_iload_n 1 d_X12_take_192 rfl rfl rfl) ?_
                        refine gg_st (go_bipush d_X12_take_193 cb_58 rfl) ?_
                        refine gg_brs (br_icmp_ne (tgt := 202) (pc' := 198) d_X12_take_195 (by decide) rfl) (fun h30 => ?_) (fun h30 => ?_)
                        · exact gg_eq (if_pos (Or.inr (Or.inr (Or.inr (Or.inr (Or.inr (Or.inr (Or.inr h30)))))))) hA21
                        · exact gg_eq (if_neg (fun z => z.elim h23 (fun z => z.elim h24 (fun z => z.elim h25 (fun z => z.elim h26 (fun z => z.elim h27 (fun z => z.elim h28 (fun z => z.elim h29 h30)))))))) hB22
        · refine gg_st (go_istore_n 2 d_X12_take_203 rfl (by decide) (L' := [some (.ref (0)), none, some (.int t20)]) rfl rfl) ?_
          refine gg_st (go_aload_n 0 d_X12_take_204 rfl rfl rfl) ?_
          refine gg_st (go_iload_n 2 d_X12_take_205 rfl rfl rfl) ?_
          refine gg_bind 215 (fun (t31 : Int32) => [none, none, none]) (fun (t31 : Int32) => [.int t31, .ref (0)]) (fun (t31 : Int32) => t18) ?_ (fun t31 => ?_)
          · refine gg_br (br_if_eq (tgt := 213) (pc' := 209) d_X12_take_206 (by decide) rfl) (fun h32 => ?_) (fun h32 => ?_)
            · refine gg_st (go_bipush d_X12_take_213 cb_6 rfl) ?_
              refine gg_st (go_fg [none, none, none] trivial) ?_
              exact gg_end rfl
            · refine gg_st (go_iconst d_X12_take_209 ci_3 rfl) ?_
              refine gg_st (go_goto (pc' := 215) d_X12_take_210 (by decide)) ?_
              refine gg_st (go_fg [none, none, none] trivial) ?_
              exact gg_end rfl
          · refine gg_st (go_putI (j := 29) cf12 sM_0 rfl (by decide) rfl rfl fl_X12_205 d_X12_take_215 rfl) ?_
            refine gg_som (fun s33 => ?_)
            exact gg_vret rfl d_X12_take_218 rfl
      refine gg_br (br_icmp_ne (tgt := 150) (pc' := 121) d_X12_take_118 (by decide) rfl) (fun h34 => ?_) (fun h34 => ?_)
      · refine gg_st (go_aload_n 0 d_X12_take_121 rfl rfl rfl) ?_
        refine gg_st (go_aload_n 0 d_X12_take_122 rfl rfl rfl) ?_
        refine gg_st (go_getI (j := 31) cf12 sM_0 rfl (by decide) fl_X12_195 d_X12_take_123 rfl) ?_
        refine gv_I (k_X12_byteAt l w (s17.1 (0) 31) s17) cv_X12_198 sM_0 (Nat.le_of_ble_eq_true rfl) rfl rfl (Nat.le_of_ble_eq_true rfl) d_X12_take_126 rfl (fun x35 => ?_)
        refine gg_st (go_bipush d_X12_take_129 cb_60 rfl) ?_
        refine gg_br (br_icmp_ne (tgt := 150) (pc' := 134) d_X12_take_131 (by decide) rfl) (fun h37 => ?_) (fun h37 => ?_)
        · refine gg_st (go_aload_n 0 d_X12_take_134 rfl rfl rfl) ?_
          refine gg_st (go_dup d_X12_take_135 rfl rfl) ?_
          refine gg_st (go_getI (j := 31) cf12 sM_0 rfl (by decide) fl_X12_195 d_X12_take_136 rfl) ?_
          refine gg_st (go_iconst d_X12_take_139 ci_1 rfl) ?_
          refine gg_st (go_iadd d_X12_take_140 rfl) ?_
          refine gg_st (go_putI (j := 31) cf12 sM_0 rfl (by decide) rfl rfl fl_X12_195 d_X12_take_141 rfl) ?_
          refine gg_som (fun s38 => ?_)
          refine gg_st (go_aload_n 0 d_X12_take_144 rfl rfl rfl) ?_
          refine gg_st (go_iconst d_X12_take_145 ci_4 rfl) ?_
          refine gg_st (go_putI (j := 29) cf12 sM_0 rfl (by decide) rfl rfl fl_X12_205 d_X12_take_146 rfl) ?_
          refine gg_som (fun s39 => ?_)
          exact gg_vret rfl d_X12_take_149 rfl
        · exact hjp19 s17
      · exact hjp19 s17
    · refine gg_st (go_aload_n 0 d_X12_take_94 rfl rfl rfl) ?_
      refine gg_st (go_iload_n 1 d_X12_take_95 rfl rfl rfl) ?_
      refine gv_V (k_X12_takeWord l w F x13 s9) cv_X12_218 sM_0 (Nat.le_of_ble_eq_true rfl) rfl rfl (Nat.le_of_ble_eq_true rfl) d_X12_take_96 rfl (fun s40 => ?_)
      exact gg_vret rfl d_X12_take_99 rfl
    refine gg_brs (br_if_ne (tgt := 94) (pc' := 80) d_X12_take_77 (by decide) rfl) (fun h43 => ?_) (fun h43 => ?_)
    · refine gg_st (go_iload_n 1 d_X12_take_80 rfl rfl rfl) ?_
      refine gg_st (go_sI (k_X12_isGreat l w x13 s9) cs_X12_212 (Nat.le_of_ble_eq_true rfl) rfl rfl (Nat.le_of_ble_eq_true rfl) d_X12_take_81 rfl) ?_
      refine gg_brs (br_if_ne (tgt := 94) (pc' := 87) d_X12_take_84 (by decide) rfl) (fun h44 => ?_) (fun h44 => ?_)
      · refine gg_st (go_iload_n 1 d_X12_take_87 rfl rfl rfl) ?_
        refine gg_st (go_sI (k_X12_isFigure l w x13 s9) cs_X12_215 (Nat.le_of_ble_eq_true rfl) rfl rfl (Nat.le_of_ble_eq_true rfl) d_X12_take_88 rfl) ?_
        refine gg_brs (br_if_eq (tgt := 100) (pc' := 94) d_X12_take_91 (by decide) rfl) (fun h45 => ?_) (fun h45 => ?_)
        · exact gg_eq (if_pos ⟨h43, ⟨h44, h45⟩⟩) hA41
        · exact gg_eq (if_neg (fun z => (fun z => h45 z.2) z.2)) hB42
      · exact gg_eq (if_neg (fun z => (fun z => h44 z.1) z.2)) hB42
    · exact gg_eq (if_neg (fun z => h43 z.1)) hB42
def f_X12_wrong (σ : St) : Option (Int32 × St) :=
  Option.bind (
    if (σ.1 (0) 29) = (6 : Int32) then (
      some (1 : Int32))
    else (
      some (2 : Int32))) fun t1 =>
  Option.bind (f_X12_fail t1 (σ.1 (0) 30) σ) fun x3 =>
  if x3.1 = 0 ∨ x3.1 = 1 then some (x3.1, x3.2) else none
set_option maxRecDepth 20000 in
theorem k_X12_wrong (l : Launch) (w : Wo) (σ : St) : K l w shM m_X12_wrong 2 [.ref (0)] σ (f_X12_wrong σ) (rIS) := by
  refine k_of (L := [some (.ref (0))]) (plainFor_of_name (by decide +kernel)) 0 rfl (Nat.le_of_ble_eq_true rfl) ?_
  unfold f_X12_wrong
  refine gg_st (go_aload_n 0 d_X12_wrong_0 rfl rfl rfl) ?_
  refine gg_st (go_aload_n 0 d_X12_wrong_1 rfl rfl rfl) ?_
  refine gg_st (go_getI (j := 29) cf12 sM_0 rfl (by decide) fl_X12_205 d_X12_wrong_2 rfl) ?_
  refine gg_st (go_bipush d_X12_wrong_5 cb_6 rfl) ?_
  refine gg_bind 15 (fun (t1 : Int32) => [some (.ref (0))]) (fun (t1 : Int32) => [.int t1, .ref (0)]) (fun (t1 : Int32) => σ) ?_ (fun t1 => ?_)
  · refine gg_br (br_icmp_ne (tgt := 14) (pc' := 10) d_X12_wrong_7 (by decide) rfl) (fun h2 => ?_) (fun h2 => ?_)
    · refine gg_st (go_iconst d_X12_wrong_10 ci_1 rfl) ?_
      refine gg_st (go_goto (pc' := 15) d_X12_wrong_11 (by decide)) ?_
      exact gg_end rfl
    · refine gg_st (go_iconst d_X12_wrong_14 ci_2 rfl) ?_
      exact gg_end rfl
  · refine gg_st (go_aload_n 0 d_X12_wrong_15 rfl rfl rfl) ?_
    refine gg_st (go_getI (j := 30) cf12 sM_0 rfl (by decide) fl_X12_202 d_X12_wrong_16 rfl) ?_
    refine gv_IS (k_X12_fail l w t1 (σ.1 (0) 30) σ) cv_X12_234 sM_0 (Nat.le_of_ble_eq_true rfl) rfl rfl (Nat.le_of_ble_eq_true rfl) d_X12_wrong_19 rfl (fun x3 => ?_)
    refine gg_gd (fun h4 => ?_)
    exact gg_zret h4 rfl d_X12_wrong_22 rfl
def f_X12_needs (F : Nat) (p1 : Int32) (σ : St) : Option (Int32 × St) :=
  Option.bind (some (f_X12_isSign p1 σ)) fun x1 =>
  if x1 = 0 then (
    Option.bind (f_X12_wrong σ) fun x3 =>
    if x3.1 = 0 ∨ x3.1 = 1 then some (x3.1, x3.2) else none)
  else (
    Option.bind (f_X12_take F σ) fun s5 =>
    some ((1 : Int32), s5))
set_option maxRecDepth 20000 in
theorem k_X12_needs (l : Launch) (w : Wo) (F : Nat) (p1 : Int32) (σ : St) : K l w shM m_X12_needs 4 [.ref (0), .int p1] σ (f_X12_needs F p1 σ) (rIS) := by
  refine k_of (L := [some (.ref (0)), some (.int p1)]) (plainFor_of_name (by decide +kernel)) 0 rfl (Nat.le_of_ble_eq_true rfl) ?_
  unfold f_X12_needs
  refine gg_st (go_aload_n 0 d_X12_needs_0 rfl rfl rfl) ?_
  refine gg_st (go_iload_n 1 d_X12_needs_1 rfl rfl rfl) ?_
  refine gv_I (k_X12_isSign l w p1 σ) cv_X12_238 sM_0 (Nat.le_of_ble_eq_true rfl) rfl rfl (Nat.le_of_ble_eq_true rfl) d_X12_needs_2 rfl (fun x1 => ?_)
  refine gg_br (br_if_ne (tgt := 13) (pc' := 8) d_X12_needs_5 (by decide) rfl) (fun h2 => ?_) (fun h2 => ?_)
  · refine gg_st (go_aload_n 0 d_X12_needs_8 rfl rfl rfl) ?_
    refine gv_IS (k_X12_wrong l w  σ) cv_X12_241 sM_0 (Nat.le_of_ble_eq_true rfl) rfl rfl (Nat.le_of_ble_eq_true rfl) d_X12_needs_9 rfl (fun x3 => ?_)
    refine gg_gd (fun h4 => ?_)
    exact gg_zret h4 rfl d_X12_needs_12 rfl
  · refine gg_st (go_aload_n 0 d_X12_needs_13 rfl rfl rfl) ?_
    refine gv_V (k_X12_take l w F  σ) cv_X12_245 sM_0 (Nat.le_of_ble_eq_true rfl) rfl rfl (Nat.le_of_ble_eq_true rfl) d_X12_needs_14 rfl (fun s5 => ?_)
    refine gg_st (go_iconst d_X12_needs_17 ci_1 rfl) ?_
    exact gg_zret (Or.inr rfl) rfl d_X12_needs_18 rfl
def f_X12_out (p1 : Int32) (σ : St) : Option (Int32) :=
  Option.bind (some (f_X12_in (p1.toInt64) (0 : Int64) (((σ.1 (0) 28) - (1 : Int32)).toInt64))) fun x1 =>
  if x1 = 0 then (
    some (-1 : Int32))
  else (
    if inb p1 4000 then (
      some (σ.1 (16) (ix p1)))
    else none)
set_option maxRecDepth 20000 in
theorem k_X12_out (l : Launch) (w : Wo) (p1 : Int32) (σ : St) : K l w shM m_X12_out 2 [.ref (0), .int p1] σ (f_X12_out p1 σ) (rI σ) := by
  refine k_of (L := [some (.ref (0)), some (.int p1)]) (plainFor_of_name (by decide +kernel)) 0 rfl (Nat.le_of_ble_eq_true rfl) ?_
  unfold f_X12_out
  refine gg_st (go_iload_n 1 d_X12_out_0 rfl rfl rfl) ?_
  refine gg_st (go_i2l d_X12_out_1 rfl) ?_
  refine gg_st (go_lconst d_X12_out_2 (v := (0 : Int64)) (by decide) rfl) ?_
  refine gg_st (go_aload_n 0 d_X12_out_3 rfl rfl rfl) ?_
  refine gg_st (go_getI (j := 28) cf12 sM_0 rfl (by decide) fl_X12_401 d_X12_out_4 rfl) ?_
  refine gg_st (go_iconst d_X12_out_7 ci_1 rfl) ?_
  refine gg_st (go_isub d_X12_out_8 rfl) ?_
  refine gg_st (go_i2l d_X12_out_9 rfl) ?_
  refine gs_I (k_X12_in l w (p1.toInt64) (0 : Int64) (((σ.1 (0) 28) - (1 : Int32)).toInt64) σ) cs_X12_191 (Nat.le_of_ble_eq_true rfl) rfl rfl (Nat.le_of_ble_eq_true rfl) d_X12_out_10 rfl (fun x1 => ?_)
  refine gg_br (br_if_eq (tgt := 25) (pc' := 16) d_X12_out_13 (by decide) rfl) (fun h3 => ?_) (fun h3 => ?_)
  · refine gg_st (go_iconst d_X12_out_25 ci_m1 rfl) ?_
    exact gg_iret rfl d_X12_out_26 rfl
  · refine gg_st (go_aload_n 0 d_X12_out_16 rfl rfl rfl) ?_
    refine gg_st (go_getR (j := 27) cf12 sM_0 rfl (by decide) fl_X12_65 d_X12_out_17 rfl) ?_
    refine gg_st (go_iload_n 1 d_X12_out_20 rfl rfl rfl) ?_
    refine gg_gd (fun h4 => ?_)
    refine gg_st (go_iald sM_16 h4 d_X12_out_21 rfl) ?_
    refine gg_st (go_goto (pc' := 26) d_X12_out_22 (by decide)) ?_
    exact gg_iret rfl d_X12_out_26 rfl
def f_X12_place (σ : St) : Int32 :=
  σ.1 (0) 2
set_option maxRecDepth 20000 in
theorem k_X12_place (l : Launch) (w : Wo) (σ : St) : K l w shM m_X12_place 1 [.ref (0)] σ (some (f_X12_place σ)) (rI σ) := by
  refine k_of (L := [some (.ref (0))]) (plainFor_of_name (by decide +kernel)) 0 rfl (Nat.le_of_ble_eq_true rfl) ?_
  unfold f_X12_place
  refine gg_st (go_aload_n 0 d_X12_place_0 rfl rfl rfl) ?_
  refine gg_st (go_getI (j := 2) cf12 sM_0 rfl (by decide) fl_X12_13 d_X12_place_1 rfl) ?_
  exact gg_iret rfl d_X12_place_4 rfl
def f_X12_put (p1 : Int32) (σ : St) : Option (St) :=
  if (σ.1 (0) 28) < (4000 : Int32) then (
    if inb (σ.1 (0) 28) 4000 then (
      Option.bind (some (seti σ (16) (ix (σ.1 (0) 28)) p1)) fun s5 =>
      Option.bind (some (seti s5 (0) 28 ((s5.1 (0) 28) + (1 : Int32)))) fun s6 =>
      some s6)
    else none)
  else (
    some σ)
set_option maxRecDepth 20000 in
theorem k_X12_put (l : Launch) (w : Wo) (p1 : Int32) (σ : St) : K l w shM m_X12_put 1 [.ref (0), .int p1] σ (f_X12_put p1 σ) (rV) := by
  refine k_of (L := [some (.ref (0)), some (.int p1)]) (plainFor_of_name (by decide +kernel)) 0 rfl (Nat.le_of_ble_eq_true rfl) ?_
  unfold f_X12_put
  refine gg_st (go_aload_n 0 d_X12_put_0 rfl rfl rfl) ?_
  refine gg_st (go_getI (j := 28) cf12 sM_0 rfl (by decide) fl_X12_401 d_X12_put_1 rfl) ?_
  refine gg_st (go_sipush d_X12_put_4 cs_4000 rfl) ?_
  refine gg_br (br_icmp_ge (tgt := 30) (pc' := 10) d_X12_put_7 (by decide) rfl) (fun h3 => ?_) (fun h3 => ?_)
  · refine gg_st (go_aload_n 0 d_X12_put_10 rfl rfl rfl) ?_
    refine gg_st (go_getR (j := 27) cf12 sM_0 rfl (by decide) fl_X12_65 d_X12_put_11 rfl) ?_
    refine gg_st (go_aload_n 0 d_X12_put_14 rfl rfl rfl) ?_
    refine gg_st (go_getI (j := 28) cf12 sM_0 rfl (by decide) fl_X12_401 d_X12_put_15 rfl) ?_
    refine gg_st (go_iload_n 1 d_X12_put_18 rfl rfl rfl) ?_
    refine gg_gd (fun h4 => ?_)
    refine gg_st (go_iast sM_16 h4 d_X12_put_19 rfl) ?_
    refine gg_som (fun s5 => ?_)
    refine gg_st (go_aload_n 0 d_X12_put_20 rfl rfl rfl) ?_
    refine gg_st (go_dup d_X12_put_21 rfl rfl) ?_
    refine gg_st (go_getI (j := 28) cf12 sM_0 rfl (by decide) fl_X12_401 d_X12_put_22 rfl) ?_
    refine gg_st (go_iconst d_X12_put_25 ci_1 rfl) ?_
    refine gg_st (go_iadd d_X12_put_26 rfl) ?_
    refine gg_st (go_putI (j := 28) cf12 sM_0 rfl (by decide) rfl rfl fl_X12_401 d_X12_put_27 rfl) ?_
    refine gg_som (fun s6 => ?_)
    exact gg_vret rfl d_X12_put_30 rfl
  · exact gg_vret rfl d_X12_put_30 rfl
def f_X12_putName_L3 (F : Nat) (c1 : Int64) : Nat → Int32 → St → Option (St)
  | 0, _, _ => none
  | n + 1, v1, g =>
    if 0 ≤ v1 then (
      Option.bind (some (((c1 >>> (v1.toInt64 &&& 63)) &&& (255 : Int64)).toInt32)) fun x3 =>
      Option.bind (
        if 0 < x3 then (
          Option.bind (f_X12_put x3 g) fun s6 =>
          some s6)
        else (
          some g)) fun t4 =>
      f_X12_putName_L3 F c1 n (v1 + (-8 : Int32)) t4)
    else (
      some g)
def f_X12_putName (F : Nat) (p1 : Int64) (σ : St) : Option (St) :=
  Option.bind (f_X12_putName_L3 F p1 F (56 : Int32) σ) fun t7 =>
  some t7
set_option maxRecDepth 20000 in
theorem g_f_X12_putName_L3 (l : Launch) (w : Wo) (F : Nat) (c1 : Int64) : ∀ (n : Nat) (v1 : Int32) (g : St), GG l w shM m_X12_putName 2 3 [some (.ref (0)), some (.long c1), none, some (.int v1), none] [] g (f_X12_putName_L3 F c1 n v1 g) (fun (t : St) => .inl (34, [none, none, none, none, none], [], t)) := by
  intro n
  induction n with
  | zero =>
    intro v1 g
    exact gg_none
  | succ n ih =>
    intro v1 g
    rw [f_X12_putName_L3]
    refine gg_st (go_iload_n 3 d_X12_putName_3 rfl rfl rfl) ?_
    refine gg_br (br_if_lt (tgt := 34) (pc' := 7) d_X12_putName_4 (by decide) rfl) (fun h2 => ?_) (fun h2 => ?_)
    · refine gg_st (go_lload_n 1 d_X12_putName_7 rfl rfl rfl) ?_
      refine gg_st (go_iload_n 3 d_X12_putName_8 rfl rfl rfl) ?_
      refine gg_st (go_lshr d_X12_putName_9 rfl) ?_
      refine gg_st (go_ldc2 ll_X12_472 d_X12_putName_10 rfl) ?_
      refine gg_st (go_land d_X12_putName_13 rfl) ?_
      refine gg_st (go_l2i d_X12_putName_14 rfl) ?_
      refine gg_nm (fun _ => [some (.ref (0)), some (.long c1), none, some (.int v1), none]) (fun (x3 : Int32) => [.int x3]) (fun x3 => ?_)
      refine gg_st (go_istore 4 d_X12_putName_15 (by decide) (L' := [some (.ref (0)), some (.long c1), none, some (.int v1), some (.int x3)]) rfl rfl) ?_
      refine gg_st (go_iload 4 d_X12_putName_17 rfl rfl) ?_
      refine gg_bind 28 (fun (t4 : St) => [some (.ref (0)), some (.long c1), none, some (.int v1), none]) (fun (t4 : St) => []) (fun (t4 : St) => t4) ?_ (fun t4 => ?_)
      · refine gg_br (br_if_le (tgt := 28) (pc' := 22) d_X12_putName_19 (by decide) rfl) (fun h5 => ?_) (fun h5 => ?_)
        · refine gg_st (go_aload_n 0 d_X12_putName_22 rfl rfl rfl) ?_
          refine gg_st (go_iload 4 d_X12_putName_23 rfl rfl) ?_
          refine gv_V (k_X12_put l w x3 g) cv_X12_474 sM_0 (Nat.le_of_ble_eq_true rfl) rfl rfl (Nat.le_of_ble_eq_true rfl) d_X12_putName_25 rfl (fun s6 => ?_)
          refine gg_st (go_fg [some (.ref (0)), some (.long c1), none, some (.int v1), none] ⟨rfl, ⟨rfl, ⟨rfl, trivial⟩⟩⟩) ?_
          exact gg_end rfl
        · refine gg_st (go_fg [some (.ref (0)), some (.long c1), none, some (.int v1), none] ⟨rfl, ⟨rfl, ⟨rfl, trivial⟩⟩⟩) ?_
          exact gg_end rfl
      · refine gg_st (go_iinc 3 d_X12_putName_28 rfl (v := v1 + (-8 : Int32)) (by rw [ci_m8]) (by decide) (L' := [some (.ref (0)), some (.long c1), none, some (.int (v1 + (-8 : Int32))), none]) rfl rfl) ?_
        refine gg_st (go_goto (pc' := 3) d_X12_putName_31 (by decide)) ?_
        exact ih (v1 + (-8 : Int32)) t4
    · refine gg_st (go_fg [none, none, none, none, none] trivial) ?_
      exact gg_end rfl
set_option maxRecDepth 20000 in
theorem k_X12_putName (l : Launch) (w : Wo) (F : Nat) (p1 : Int64) (σ : St) : K l w shM m_X12_putName 2 [.ref (0), .long p1] σ (f_X12_putName F p1 σ) (rV) := by
  refine k_of (L := [some (.ref (0)), some (.long p1), none, none, none]) (plainFor_of_name (by decide +kernel)) 2 rfl (Nat.le_of_ble_eq_true rfl) ?_
  unfold f_X12_putName
  refine gg_st (go_bipush d_X12_putName_0 cb_56 rfl) ?_
  refine gg_st (go_istore_n 3 d_X12_putName_2 rfl (by decide) (L' := [some (.ref (0)), some (.long p1), none, some (.int (56 : Int32)), none]) rfl rfl) ?_
  refine gg_bind 34 (fun (t7 : St) => [none, none, none, none, none]) (fun (t7 : St) => []) (fun (t7 : St) => t7) (g_f_X12_putName_L3 l w F p1 F (56 : Int32) σ) (fun t7 => ?_)
  exact gg_vret rfl d_X12_putName_34 rfl
def f_X12_print_L176 (F : Nat) : Nat → Int32 → Int32 → Int32 → Int32 → St → Option (Int32 × Int32 × Int32 × St)
  | 0, _, _, _, _, _ => none
  | n + 1, v34, v35, v36, v37, g =>
    if (0 < v34) ∧ (v36 = 0) then (
      if inb (v34 - (1 : Int32)) 41 then (
        Option.bind (some (g.1 (52) (ix (v34 - (1 : Int32))))) fun x40 =>
        Option.bind (some (v34 - (1 : Int32))) fun x41 =>
        if inb x41 41 then (
          if inb x41 41 then (
            Option.bind (some (seti g (53) (ix x41) ((g.1 (53) (ix x41)) + (1 : Int32)))) fun s44 =>
            if inb (v34 - (1 : Int32)) 41 then (
              if inb x40 400 then (
                if inb (s44.1 (12) (ix x40)) 16 then (
                  Option.bind (
                    if (s44.1 (53) (ix (v34 - (1 : Int32)))) < (s44.1 (3) (ix (s44.1 (12) (ix x40)))) then (
                      some (1 : Int32))
                    else (
                      some (0 : Int32))) fun t48 =>
                  Option.bind (
                    if t48 = 0 then (
                      Option.bind (f_X12_put (41 : Int32) s44) fun s52 =>
                      Option.bind (some (v34 + (-1 : Int32))) fun x53 =>
                      some (x53, v35, s52))
                    else (
                      Option.bind (
                        if v37 = 0 then (
                          Option.bind (f_X12_put (44 : Int32) s44) fun s56 =>
                          some s56)
                        else (
                          some s44)) fun t54 =>
                      if inb (v34 - (1 : Int32)) 41 then (
                        if inb (((5 : Int32) * x40) + (t54.1 (53) (ix (v34 - (1 : Int32))))) 2000 then (
                          Option.bind (some (t54.1 (13) (ix (((5 : Int32) * x40) + (t54.1 (53) (ix (v34 - (1 : Int32)))))))) fun x59 =>
                          some (v34, x59, t54))
                        else none)
                      else none)) fun t50 =>
                  f_X12_print_L176 F n t50.1 t50.2.1 t48 (0 : Int32) t50.2.2)
                else none)
              else none)
            else none)
          else none)
        else none)
      else none)
    else (
      some (v34, v35, v36, g))
def f_X12_print_L37 (F : Nat) : Nat → Int32 → Int32 → Int32 → St → Option (St)
  | 0, _, _, _, _ => none
  | n + 1, v7, v8, v9, g =>
    if v9 = 0 then (
      some g)
    else (
      Option.bind (
        if v8 < 0 then (
          Option.bind (f_X12_put (35 : Int32) g) fun s13 =>
          Option.bind (f_X12_put ((46 : Int32) - v8) s13) fun s14 =>
          some (v7, (0 : Int32), s14))
        else (
          if (v8 - v8 / (5 : Int32) * (5 : Int32)) = 0 then (
            if v7 = (40 : Int32) then (
              Option.bind (f_X12_put (126 : Int32) g) fun s17 =>
              some (v7, (0 : Int32), s17))
            else (
              Option.bind (some (v8 / (5 : Int32))) fun x18 =>
              if inb x18 400 then (
                if inb (g.1 (12) (ix x18)) 16 then (
                  Option.bind (f_X12_putName F (g.2 (2) (ix (g.1 (12) (ix x18)))) g) fun s21 =>
                  if inb x18 400 then (
                    if inb (s21.1 (12) (ix x18)) 16 then (
                      Option.bind (
                        if (1 : Int32) < (s21.1 (3) (ix (s21.1 (12) (ix x18)))) then (
                          some (1 : Int32))
                        else (
                          some (0 : Int32))) fun t24 =>
                      if t24 = 0 then (
                        some (v7, t24, s21))
                      else (
                        Option.bind (f_X12_put (40 : Int32) s21) fun s27 =>
                        if inb v7 41 then (
                          Option.bind (some (seti s27 (52) (ix v7) x18)) fun s29 =>
                          if inb v7 41 then (
                            Option.bind (some (seti s29 (53) (ix v7) (0 : Int32))) fun s31 =>
                            Option.bind (some (v7 + (1 : Int32))) fun x32 =>
                            some (x32, t24, s31))
                          else none)
                        else none))
                    else none)
                  else none)
                else none)
              else none))
          else (
            Option.bind (f_X12_put (64 : Int32) g) fun s33 =>
            some (v7, (0 : Int32), s33)))) fun t11 =>
      Option.bind (f_X12_print_L176 F F t11.1 v8 (0 : Int32) t11.2.1 t11.2.2) fun t64 =>
      f_X12_print_L37 F n t64.1 t64.2.1 t64.2.2.1 t64.2.2.2)
def f_X12_print (F : Nat) (p1 : Int32) (σ : St) : Option (Int32 × St) :=
  Option.bind (some (f_X12_in (p1.toInt64) (0 : Int64) (((σ.1 (0) 18) - (1 : Int32)).toInt64))) fun x1 =>
  if x1 = 0 then (
    some ((-1001 : Int32), σ))
  else (
    Option.bind (some (seti σ (0) 28 (0 : Int32))) fun s4 =>
    if inb p1 8 then (
      Option.bind (some (s4.1 (14) (ix p1))) fun x6 =>
      Option.bind (f_X12_print_L37 F F (0 : Int32) x6 (1 : Int32) s4) fun t65 =>
      some (t65.1 (0) 28, t65))
    else none)
set_option maxRecDepth 20000 in
theorem g_f_X12_print_L176 (l : Launch) (w : Wo) (F : Nat) : ∀ (n : Nat) (v34 : Int32) (v35 : Int32) (v36 : Int32) (v37 : Int32) (g : St), GG l w shM m_X12_print 3 176 [some (.ref (0)), none, some (.int v34), some (.int v35), none, none, some (.int v36), some (.int v37), none] [] g (f_X12_print_L176 F n v34 v35 v36 v37 g) (fun (t : Int32 × Int32 × Int32 × St) => .inl (290, [some (.ref (0)), none, some (.int t.1), some (.int t.2.1), none, none, some (.int t.2.2.1), none, none], [], t.2.2.2)) := by
  intro n
  induction n with
  | zero =>
    intro v34 v35 v36 v37 g
    exact gg_none
  | succ n ih =>
    intro v34 v35 v36 v37 g
    rw [f_X12_print_L176]
    refine gg_st (go_iload_n 2 d_X12_print_176 rfl rfl rfl) ?_
    refine gg_two (c := (0 < v34) ∧ (v36 = 0)) (pA := 185) (pB := 290) (LL := [some (.ref (0)), none, some (.int v34), some (.int v35), none, none, some (.int v36), some (.int v37), none]) (ss := []) ?_ ?_ (fun hA60 hB61 => ?_)
    · refine gg_st (go_aload_n 0 d_X12_print_185 rfl rfl rfl) ?_
      refine gg_st (go_getR (j := 81) cf12 sM_0 rfl (by decide) fl_X12_173 d_X12_print_186 rfl) ?_
      refine gg_st (go_iload_n 2 d_X12_print_189 rfl rfl rfl) ?_
      refine gg_st (go_iconst d_X12_print_190 ci_1 rfl) ?_
      refine gg_st (go_isub d_X12_print_191 rfl) ?_
      refine gg_gd (fun h39 => ?_)
      refine gg_st (go_iald sM_52 h39 d_X12_print_192 rfl) ?_
      refine gg_nm (fun _ => [some (.ref (0)), none, some (.int v34), some (.int v35), none, none, some (.int v36), some (.int v37), none]) (fun (x40 : Int32) => [.int x40]) (fun x40 => ?_)
      refine gg_st (go_istore 8 d_X12_print_193 (by decide) (L' := [some (.ref (0)), none, some (.int v34), some (.int v35), none, none, some (.int v36), some (.int v37), some (.int x40)]) rfl rfl) ?_
      refine gg_st (go_aload_n 0 d_X12_print_195 rfl rfl rfl) ?_
      refine gg_st (go_getR (j := 82) cf12 sM_0 rfl (by decide) fl_X12_176 d_X12_print_196 rfl) ?_
      refine gg_st (go_iload_n 2 d_X12_print_199 rfl rfl rfl) ?_
      refine gg_st (go_iconst d_X12_print_200 ci_1 rfl) ?_
      refine gg_st (go_isub d_X12_print_201 rfl) ?_
      refine gg_nm (fun _ => [some (.ref (0)), none, some (.int v34), some (.int v35), none, none, some (.int v36), some (.int v37), some (.int x40)]) (fun (x41 : Int32) => [.int x41, .ref (53)]) (fun x41 => ?_)
      refine gg_st (go_dup2 d_X12_print_202 rfl rfl rfl) ?_
      refine gg_gd (fun h42 => ?_)
      refine gg_st (go_iald sM_53 h42 d_X12_print_203 rfl) ?_
      refine gg_st (go_iconst d_X12_print_204 ci_1 rfl) ?_
      refine gg_st (go_iadd d_X12_print_205 rfl) ?_
      refine gg_gd (fun h43 => ?_)
      refine gg_st (go_iast sM_53 h43 d_X12_print_206 rfl) ?_
      refine gg_som (fun s44 => ?_)
      refine gg_st (go_aload_n 0 d_X12_print_207 rfl rfl rfl) ?_
      refine gg_st (go_getR (j := 82) cf12 sM_0 rfl (by decide) fl_X12_176 d_X12_print_208 rfl) ?_
      refine gg_st (go_iload_n 2 d_X12_print_211 rfl rfl rfl) ?_
      refine gg_st (go_iconst d_X12_print_212 ci_1 rfl) ?_
      refine gg_st (go_isub d_X12_print_213 rfl) ?_
      refine gg_gd (fun h45 => ?_)
      refine gg_st (go_iald sM_53 h45 d_X12_print_214 rfl) ?_
      refine gg_st (go_aload_n 0 d_X12_print_215 rfl rfl rfl) ?_
      refine gg_st (go_getR (j := 5) cf12 sM_0 rfl (by decide) fl_X12_21 d_X12_print_216 rfl) ?_
      refine gg_st (go_aload_n 0 d_X12_print_219 rfl rfl rfl) ?_
      refine gg_st (go_getR (j := 15) cf12 sM_0 rfl (by decide) fl_X12_49 d_X12_print_220 rfl) ?_
      refine gg_st (go_iload 8 d_X12_print_223 rfl rfl) ?_
      refine gg_gd (fun h46 => ?_)
      refine gg_st (go_iald sM_12 h46 d_X12_print_225 rfl) ?_
      refine gg_gd (fun h47 => ?_)
      refine gg_st (go_iald sM_3 h47 d_X12_print_226 rfl) ?_
      refine gg_bind 235 (fun (t48 : Int32) => [some (.ref (0)), none, some (.int v34), some (.int v35), none, none, none, some (.int v37), some (.int x40)]) (fun (t48 : Int32) => [.int t48]) (fun (t48 : Int32) => s44) ?_ (fun t48 => ?_)
      · refine gg_br (br_icmp_ge (tgt := 234) (pc' := 230) d_X12_print_227 (by decide) rfl) (fun h49 => ?_) (fun h49 => ?_)
        · refine gg_st (go_iconst d_X12_print_230 ci_1 rfl) ?_
          refine gg_st (go_goto (pc' := 235) d_X12_print_231 (by decide)) ?_
          refine gg_st (go_fg [some (.ref (0)), none, some (.int v34), some (.int v35), none, none, none, some (.int v37), some (.int x40)] ⟨rfl, ⟨rfl, ⟨rfl, ⟨rfl, ⟨rfl, trivial⟩⟩⟩⟩⟩) ?_
          exact gg_end rfl
        · refine gg_st (go_iconst d_X12_print_234 ci_0 rfl) ?_
          refine gg_st (go_fg [some (.ref (0)), none, some (.int v34), some (.int v35), none, none, none, some (.int v37), some (.int x40)] ⟨rfl, ⟨rfl, ⟨rfl, ⟨rfl, ⟨rfl, trivial⟩⟩⟩⟩⟩) ?_
          exact gg_end rfl
      · refine gg_st (go_istore 6 d_X12_print_235 (by decide) (L' := [some (.ref (0)), none, some (.int v34), some (.int v35), none, none, some (.int t48), some (.int v37), some (.int x40)]) rfl rfl) ?_
        refine gg_st (go_iload 6 d_X12_print_237 rfl rfl) ?_
        refine gg_bind 284 (fun (t50 : Int32 × Int32 × St) => [some (.ref (0)), none, some (.int t50.1), some (.int t50.2.1), none, none, some (.int t48), none, none]) (fun (t50 : Int32 × Int32 × St) => []) (fun (t50 : Int32 × Int32 × St) => t50.2.2) ?_ (fun t50 => ?_)
        · refine gg_br (br_if_eq (tgt := 275) (pc' := 242) d_X12_print_239 (by decide) rfl) (fun h51 => ?_) (fun h51 => ?_)
          · refine gg_st (go_aload_n 0 d_X12_print_275 rfl rfl rfl) ?_
            refine gg_st (go_bipush d_X12_print_276 cb_41 rfl) ?_
            refine gv_V (k_X12_put l w (41 : Int32) s44) cv_X12_474 sM_0 (Nat.le_of_ble_eq_true rfl) rfl rfl (Nat.le_of_ble_eq_true rfl) d_X12_print_278 rfl (fun s52 => ?_)
            refine gg_st (go_iinc 2 d_X12_print_281 rfl (v := v34 + (-1 : Int32)) (by rw [ci_m1]) (by decide) (L' := [some (.ref (0)), none, some (.int (v34 + (-1 : Int32))), some (.int v35), none, none, some (.int t48), some (.int v37), some (.int x40)]) rfl rfl) ?_
            refine gg_nm (fun (x53 : Int32) => [some (.ref (0)), none, some (.int x53), some (.int v35), none, none, some (.int t48), some (.int v37), some (.int x40)]) (fun _ => []) (fun x53 => ?_)
            refine gg_st (go_fg [some (.ref (0)), none, some (.int x53), some (.int v35), none, none, some (.int t48), none, none] ⟨rfl, ⟨rfl, ⟨rfl, ⟨rfl, trivial⟩⟩⟩⟩) ?_
            exact gg_end rfl
          · refine gg_st (go_iload 7 d_X12_print_242 rfl rfl) ?_
            refine gg_bind 253 (fun (t54 : St) => [some (.ref (0)), none, some (.int v34), none, none, none, some (.int t48), none, some (.int x40)]) (fun (t54 : St) => []) (fun (t54 : St) => t54) ?_ (fun t54 => ?_)
            · refine gg_br (br_if_ne (tgt := 253) (pc' := 247) d_X12_print_244 (by decide) rfl) (fun h55 => ?_) (fun h55 => ?_)
              · refine gg_st (go_aload_n 0 d_X12_print_247 rfl rfl rfl) ?_
                refine gg_st (go_bipush d_X12_print_248 cb_44 rfl) ?_
                refine gv_V (k_X12_put l w (44 : Int32) s44) cv_X12_474 sM_0 (Nat.le_of_ble_eq_true rfl) rfl rfl (Nat.le_of_ble_eq_true rfl) d_X12_print_250 rfl (fun s56 => ?_)
                refine gg_st (go_fg [some (.ref (0)), none, some (.int v34), none, none, none, some (.int t48), none, some (.int x40)] ⟨rfl, ⟨rfl, ⟨rfl, ⟨rfl, trivial⟩⟩⟩⟩) ?_
                exact gg_end rfl
              · refine gg_st (go_fg [some (.ref (0)), none, some (.int v34), none, none, none, some (.int t48), none, some (.int x40)] ⟨rfl, ⟨rfl, ⟨rfl, ⟨rfl, trivial⟩⟩⟩⟩) ?_
                exact gg_end rfl
            · refine gg_st (go_aload_n 0 d_X12_print_253 rfl rfl rfl) ?_
              refine gg_st (go_getR (j := 16) cf12 sM_0 rfl (by decide) fl_X12_52 d_X12_print_254 rfl) ?_
              refine gg_st (go_iconst d_X12_print_257 ci_5 rfl) ?_
              refine gg_st (go_iload 8 d_X12_print_258 rfl rfl) ?_
              refine gg_st (go_imul d_X12_print_260 rfl) ?_
              refine gg_st (go_aload_n 0 d_X12_print_261 rfl rfl rfl) ?_
              refine gg_st (go_getR (j := 82) cf12 sM_0 rfl (by decide) fl_X12_176 d_X12_print_262 rfl) ?_
              refine gg_st (go_iload_n 2 d_X12_print_265 rfl rfl rfl) ?_
              refine gg_st (go_iconst d_X12_print_266 ci_1 rfl) ?_
              refine gg_st (go_isub d_X12_print_267 rfl) ?_
              refine gg_gd (fun h57 => ?_)
              refine gg_st (go_iald sM_53 h57 d_X12_print_268 rfl) ?_
              refine gg_st (go_iadd d_X12_print_269 rfl) ?_
              refine gg_gd (fun h58 => ?_)
              refine gg_st (go_iald sM_13 h58 d_X12_print_270 rfl) ?_
              refine gg_nm (fun _ => [some (.ref (0)), none, some (.int v34), none, none, none, some (.int t48), none, some (.int x40)]) (fun (x59 : Int32) => [.int x59]) (fun x59 => ?_)
              refine gg_st (go_istore_n 3 d_X12_print_271 rfl (by decide) (L' := [some (.ref (0)), none, some (.int v34), some (.int x59), none, none, some (.int t48), none, some (.int x40)]) rfl rfl) ?_
              refine gg_st (go_goto (pc' := 284) d_X12_print_272 (by decide)) ?_
              refine gg_st (go_fg [some (.ref (0)), none, some (.int v34), some (.int x59), none, none, some (.int t48), none, none] ⟨rfl, ⟨rfl, ⟨rfl, ⟨rfl, trivial⟩⟩⟩⟩) ?_
              exact gg_end rfl
        · refine gg_st (go_iconst d_X12_print_284 ci_0 rfl) ?_
          refine gg_st (go_istore 7 d_X12_print_285 (by decide) (L' := [some (.ref (0)), none, some (.int t50.1), some (.int t50.2.1), none, none, some (.int t48), some (.int (0 : Int32)), none]) rfl rfl) ?_
          refine gg_st (go_goto (pc' := 176) d_X12_print_287 (by decide)) ?_
          exact ih t50.1 t50.2.1 t48 (0 : Int32) t50.2.2
    · refine gg_st (go_fg [some (.ref (0)), none, some (.int v34), some (.int v35), none, none, some (.int v36), none, none] ⟨rfl, ⟨rfl, ⟨rfl, ⟨rfl, trivial⟩⟩⟩⟩) ?_
      exact gg_end rfl
    refine gg_brs (br_if_le (tgt := 290) (pc' := 180) d_X12_print_177 (by decide) rfl) (fun h62 => ?_) (fun h62 => ?_)
    · refine gg_st (go_iload 6 d_X12_print_180 rfl rfl) ?_
      refine gg_brs (br_if_ne (tgt := 290) (pc' := 185) d_X12_print_182 (by decide) rfl) (fun h63 => ?_) (fun h63 => ?_)
      · exact gg_eq (if_pos ⟨h62, h63⟩) hA60
      · exact gg_eq (if_neg (fun z => h63 z.2)) hB61
    · exact gg_eq (if_neg (fun z => h62 z.1)) hB61
set_option maxRecDepth 20000 in
theorem g_f_X12_print_L37 (l : Launch) (w : Wo) (F : Nat) : ∀ (n : Nat) (v7 : Int32) (v8 : Int32) (v9 : Int32) (g : St), GG l w shM m_X12_print 3 37 [some (.ref (0)), none, some (.int v7), some (.int v8), some (.int v9), none, none, none, none] [] g (f_X12_print_L37 F n v7 v8 v9 g) (fun (t : St) => .inl (297, [some (.ref (0)), none, none, none, none, none, none, none, none], [], t)) := by
  intro n
  induction n with
  | zero =>
    intro v7 v8 v9 g
    exact gg_none
  | succ n ih =>
    intro v7 v8 v9 g
    rw [f_X12_print_L37]
    refine gg_st (go_iload 4 d_X12_print_37 rfl rfl) ?_
    refine gg_br (br_if_eq (tgt := 297) (pc' := 42) d_X12_print_39 (by decide) rfl) (fun h10 => ?_) (fun h10 => ?_)
    · refine gg_st (go_fg [some (.ref (0)), none, none, none, none, none, none, none, none] ⟨rfl, trivial⟩) ?_
      exact gg_end rfl
    · refine gg_st (go_iconst d_X12_print_42 ci_0 rfl) ?_
      refine gg_st (go_istore 5 d_X12_print_43 (by decide) (L' := [some (.ref (0)), none, some (.int v7), some (.int v8), some (.int v9), some (.int (0 : Int32)), none, none, none]) rfl rfl) ?_
      refine gg_st (go_iload_n 3 d_X12_print_45 rfl rfl rfl) ?_
      refine gg_bind 169 (fun (t11 : Int32 × Int32 × St) => [some (.ref (0)), none, some (.int t11.1), some (.int v8), none, some (.int t11.2.1), none, none, none]) (fun (t11 : Int32 × Int32 × St) => []) (fun (t11 : Int32 × Int32 × St) => t11.2.2) ?_ (fun t11 => ?_)
      · refine gg_br (br_if_ge (tgt := 66) (pc' := 49) d_X12_print_46 (by decide) rfl) (fun h12 => ?_) (fun h12 => ?_)
        · refine gg_st (go_aload_n 0 d_X12_print_49 rfl rfl rfl) ?_
          refine gg_st (go_bipush d_X12_print_50 cb_35 rfl) ?_
          refine gv_V (k_X12_put l w (35 : Int32) g) cv_X12_474 sM_0 (Nat.le_of_ble_eq_true rfl) rfl rfl (Nat.le_of_ble_eq_true rfl) d_X12_print_52 rfl (fun s13 => ?_)
          refine gg_st (go_aload_n 0 d_X12_print_55 rfl rfl rfl) ?_
          refine gg_st (go_bipush d_X12_print_56 cb_46 rfl) ?_
          refine gg_st (go_iload_n 3 d_X12_print_58 rfl rfl rfl) ?_
          refine gg_st (go_isub d_X12_print_59 rfl) ?_
          refine gv_V (k_X12_put l w ((46 : Int32) - v8) s13) cv_X12_474 sM_0 (Nat.le_of_ble_eq_true rfl) rfl rfl (Nat.le_of_ble_eq_true rfl) d_X12_print_60 rfl (fun s14 => ?_)
          refine gg_st (go_goto (pc' := 169) d_X12_print_63 (by decide)) ?_
          refine gg_st (go_fg [some (.ref (0)), none, some (.int v7), some (.int v8), none, some (.int (0 : Int32)), none, none, none] ⟨rfl, ⟨rfl, ⟨rfl, ⟨rfl, trivial⟩⟩⟩⟩) ?_
          exact gg_end rfl
        · refine gg_st (go_iload_n 3 d_X12_print_66 rfl rfl rfl) ?_
          refine gg_st (go_iconst d_X12_print_67 ci_5 rfl) ?_
          refine gg_st (go_irem d_X12_print_68 (by decide) rfl) ?_
          refine gg_br (br_if_eq (tgt := 81) (pc' := 72) d_X12_print_69 (by decide) rfl) (fun h15 => ?_) (fun h15 => ?_)
          · refine gg_st (go_iload_n 2 d_X12_print_81 rfl rfl rfl) ?_
            refine gg_st (go_bipush d_X12_print_82 cb_40 rfl) ?_
            refine gg_br (br_icmp_ne (tgt := 96) (pc' := 87) d_X12_print_84 (by decide) rfl) (fun h16 => ?_) (fun h16 => ?_)
            · refine gg_st (go_aload_n 0 d_X12_print_87 rfl rfl rfl) ?_
              refine gg_st (go_bipush d_X12_print_88 cb_126 rfl) ?_
              refine gv_V (k_X12_put l w (126 : Int32) g) cv_X12_474 sM_0 (Nat.le_of_ble_eq_true rfl) rfl rfl (Nat.le_of_ble_eq_true rfl) d_X12_print_90 rfl (fun s17 => ?_)
              refine gg_st (go_goto (pc' := 169) d_X12_print_93 (by decide)) ?_
              refine gg_st (go_fg [some (.ref (0)), none, some (.int v7), some (.int v8), none, some (.int (0 : Int32)), none, none, none] ⟨rfl, ⟨rfl, ⟨rfl, ⟨rfl, trivial⟩⟩⟩⟩) ?_
              exact gg_end rfl
            · refine gg_st (go_iload_n 3 d_X12_print_96 rfl rfl rfl) ?_
              refine gg_st (go_iconst d_X12_print_97 ci_5 rfl) ?_
              refine gg_st (go_idiv d_X12_print_98 (by decide) rfl) ?_
              refine gg_nm (fun _ => [some (.ref (0)), none, some (.int v7), some (.int v8), some (.int v9), some (.int (0 : Int32)), none, none, none]) (fun (x18 : Int32) => [.int x18]) (fun x18 => ?_)
              refine gg_st (go_istore 6 d_X12_print_99 (by decide) (L' := [some (.ref (0)), none, some (.int v7), some (.int v8), some (.int v9), some (.int (0 : Int32)), some (.int x18), none, none]) rfl rfl) ?_
              refine gg_st (go_aload_n 0 d_X12_print_101 rfl rfl rfl) ?_
              refine gg_st (go_aload_n 0 d_X12_print_102 rfl rfl rfl) ?_
              refine gg_st (go_getR (j := 4) cf12 sM_0 rfl (by decide) fl_X12_17 d_X12_print_103 rfl) ?_
              refine gg_st (go_aload_n 0 d_X12_print_106 rfl rfl rfl) ?_
              refine gg_st (go_getR (j := 15) cf12 sM_0 rfl (by decide) fl_X12_49 d_X12_print_107 rfl) ?_
              refine gg_st (go_iload 6 d_X12_print_110 rfl rfl) ?_
              refine gg_gd (fun h19 => ?_)
              refine gg_st (go_iald sM_12 h19 d_X12_print_112 rfl) ?_
              refine gg_gd (fun h20 => ?_)
              refine gg_st (go_lald sM_2 h20 d_X12_print_113 rfl) ?_
              refine gv_V (k_X12_putName l w F (g.2 (2) (ix (g.1 (12) (ix x18)))) g) cv_X12_477 sM_0 (Nat.le_of_ble_eq_true rfl) rfl rfl (Nat.le_of_ble_eq_true rfl) d_X12_print_114 rfl (fun s21 => ?_)
              refine gg_st (go_aload_n 0 d_X12_print_117 rfl rfl rfl) ?_
              refine gg_st (go_getR (j := 5) cf12 sM_0 rfl (by decide) fl_X12_21 d_X12_print_118 rfl) ?_
              refine gg_st (go_aload_n 0 d_X12_print_121 rfl rfl rfl) ?_
              refine gg_st (go_getR (j := 15) cf12 sM_0 rfl (by decide) fl_X12_49 d_X12_print_122 rfl) ?_
              refine gg_st (go_iload 6 d_X12_print_125 rfl rfl) ?_
              refine gg_gd (fun h22 => ?_)
              refine gg_st (go_iald sM_12 h22 d_X12_print_127 rfl) ?_
              refine gg_gd (fun h23 => ?_)
              refine gg_st (go_iald sM_3 h23 d_X12_print_128 rfl) ?_
              refine gg_st (go_iconst d_X12_print_129 ci_1 rfl) ?_
              refine gg_bind 138 (fun (t24 : Int32) => [some (.ref (0)), none, some (.int v7), some (.int v8), none, none, some (.int x18), none, none]) (fun (t24 : Int32) => [.int t24]) (fun (t24 : Int32) => s21) ?_ (fun t24 => ?_)
              · refine gg_br (br_icmp_le (tgt := 137) (pc' := 133) d_X12_print_130 (by decide) rfl) (fun h25 => ?_) (fun h25 => ?_)
                · refine gg_st (go_iconst d_X12_print_133 ci_1 rfl) ?_
                  refine gg_st (go_goto (pc' := 138) d_X12_print_134 (by decide)) ?_
                  refine gg_st (go_fg [some (.ref (0)), none, some (.int v7), some (.int v8), none, none, some (.int x18), none, none] ⟨rfl, ⟨rfl, ⟨rfl, ⟨rfl, trivial⟩⟩⟩⟩) ?_
                  exact gg_end rfl
                · refine gg_st (go_iconst d_X12_print_137 ci_0 rfl) ?_
                  refine gg_st (go_fg [some (.ref (0)), none, some (.int v7), some (.int v8), none, none, some (.int x18), none, none] ⟨rfl, ⟨rfl, ⟨rfl, ⟨rfl, trivial⟩⟩⟩⟩) ?_
                  exact gg_end rfl
              · refine gg_st (go_istore 5 d_X12_print_138 (by decide) (L' := [some (.ref (0)), none, some (.int v7), some (.int v8), none, some (.int t24), some (.int x18), none, none]) rfl rfl) ?_
                refine gg_st (go_iload 5 d_X12_print_140 rfl rfl) ?_
                refine gg_br (br_if_eq (tgt := 169) (pc' := 145) d_X12_print_142 (by decide) rfl) (fun h26 => ?_) (fun h26 => ?_)
                · refine gg_st (go_fg [some (.ref (0)), none, some (.int v7), some (.int v8), none, some (.int t24), none, none, none] ⟨rfl, ⟨rfl, ⟨rfl, ⟨rfl, trivial⟩⟩⟩⟩) ?_
                  exact gg_end rfl
                · refine gg_st (go_aload_n 0 d_X12_print_145 rfl rfl rfl) ?_
                  refine gg_st (go_bipush d_X12_print_146 cb_40 rfl) ?_
                  refine gv_V (k_X12_put l w (40 : Int32) s21) cv_X12_474 sM_0 (Nat.le_of_ble_eq_true rfl) rfl rfl (Nat.le_of_ble_eq_true rfl) d_X12_print_148 rfl (fun s27 => ?_)
                  refine gg_st (go_aload_n 0 d_X12_print_151 rfl rfl rfl) ?_
                  refine gg_st (go_getR (j := 81) cf12 sM_0 rfl (by decide) fl_X12_173 d_X12_print_152 rfl) ?_
                  refine gg_st (go_iload_n 2 d_X12_print_155 rfl rfl rfl) ?_
                  refine gg_st (go_iload 6 d_X12_print_156 rfl rfl) ?_
                  refine gg_gd (fun h28 => ?_)
                  refine gg_st (go_iast sM_52 h28 d_X12_print_158 rfl) ?_
                  refine gg_som (fun s29 => ?_)
                  refine gg_st (go_aload_n 0 d_X12_print_159 rfl rfl rfl) ?_
                  refine gg_st (go_getR (j := 82) cf12 sM_0 rfl (by decide) fl_X12_176 d_X12_print_160 rfl) ?_
                  refine gg_st (go_iload_n 2 d_X12_print_163 rfl rfl rfl) ?_
                  refine gg_st (go_iconst d_X12_print_164 ci_0 rfl) ?_
                  refine gg_gd (fun h30 => ?_)
                  refine gg_st (go_iast sM_53 h30 d_X12_print_165 rfl) ?_
                  refine gg_som (fun s31 => ?_)
                  refine gg_st (go_iinc 2 d_X12_print_166 rfl (v := v7 + (1 : Int32)) (by rw [ci_1]) (by decide) (L' := [some (.ref (0)), none, some (.int (v7 + (1 : Int32))), some (.int v8), none, some (.int t24), some (.int x18), none, none]) rfl rfl) ?_
                  refine gg_nm (fun (x32 : Int32) => [some (.ref (0)), none, some (.int x32), some (.int v8), none, some (.int t24), some (.int x18), none, none]) (fun _ => []) (fun x32 => ?_)
                  refine gg_st (go_fg [some (.ref (0)), none, some (.int x32), some (.int v8), none, some (.int t24), none, none, none] ⟨rfl, ⟨rfl, ⟨rfl, ⟨rfl, trivial⟩⟩⟩⟩) ?_
                  exact gg_end rfl
          · refine gg_st (go_aload_n 0 d_X12_print_72 rfl rfl rfl) ?_
            refine gg_st (go_bipush d_X12_print_73 cb_64 rfl) ?_
            refine gv_V (k_X12_put l w (64 : Int32) g) cv_X12_474 sM_0 (Nat.le_of_ble_eq_true rfl) rfl rfl (Nat.le_of_ble_eq_true rfl) d_X12_print_75 rfl (fun s33 => ?_)
            refine gg_st (go_goto (pc' := 169) d_X12_print_78 (by decide)) ?_
            refine gg_st (go_fg [some (.ref (0)), none, some (.int v7), some (.int v8), none, some (.int (0 : Int32)), none, none, none] ⟨rfl, ⟨rfl, ⟨rfl, ⟨rfl, trivial⟩⟩⟩⟩) ?_
            exact gg_end rfl
      · refine gg_st (go_iconst d_X12_print_169 ci_0 rfl) ?_
        refine gg_st (go_istore 6 d_X12_print_170 (by decide) (L' := [some (.ref (0)), none, some (.int t11.1), some (.int v8), none, some (.int t11.2.1), some (.int (0 : Int32)), none, none]) rfl rfl) ?_
        refine gg_st (go_iload 5 d_X12_print_172 rfl rfl) ?_
        refine gg_st (go_istore 7 d_X12_print_174 (by decide) (L' := [some (.ref (0)), none, some (.int t11.1), some (.int v8), none, some (.int t11.2.1), some (.int (0 : Int32)), some (.int t11.2.1), none]) rfl rfl) ?_
        refine gg_st (go_fg [some (.ref (0)), none, some (.int t11.1), some (.int v8), none, none, some (.int (0 : Int32)), some (.int t11.2.1), none] ⟨rfl, ⟨rfl, ⟨rfl, ⟨rfl, ⟨rfl, trivial⟩⟩⟩⟩⟩) ?_
        refine gg_bind 290 (fun (t64 : Int32 × Int32 × Int32 × St) => [some (.ref (0)), none, some (.int t64.1), some (.int t64.2.1), none, none, some (.int t64.2.2.1), none, none]) (fun (t64 : Int32 × Int32 × Int32 × St) => []) (fun (t64 : Int32 × Int32 × Int32 × St) => t64.2.2.2) (g_f_X12_print_L176 l w F F t11.1 v8 (0 : Int32) t11.2.1 t11.2.2) (fun t64 => ?_)
        refine gg_st (go_iload 6 d_X12_print_290 rfl rfl) ?_
        refine gg_st (go_istore 4 d_X12_print_292 (by decide) (L' := [some (.ref (0)), none, some (.int t64.1), some (.int t64.2.1), some (.int t64.2.2.1), none, some (.int t64.2.2.1), none, none]) rfl rfl) ?_
        refine gg_st (go_goto (pc' := 37) d_X12_print_294 (by decide)) ?_
        refine gg_st (go_fg [some (.ref (0)), none, some (.int t64.1), some (.int t64.2.1), some (.int t64.2.2.1), none, none, none, none] ⟨rfl, ⟨rfl, ⟨rfl, ⟨rfl, trivial⟩⟩⟩⟩) ?_
        exact ih t64.1 t64.2.1 t64.2.2.1 t64.2.2.2
set_option maxRecDepth 20000 in
theorem k_X12_print (l : Launch) (w : Wo) (F : Nat) (p1 : Int32) (σ : St) : K l w shM m_X12_print 3 [.ref (0), .int p1] σ (f_X12_print F p1 σ) (rIS) := by
  refine k_of (L := [some (.ref (0)), some (.int p1), none, none, none, none, none, none, none]) (plainFor_of_name (by decide +kernel)) 7 rfl (Nat.le_of_ble_eq_true rfl) ?_
  unfold f_X12_print
  refine gg_st (go_iload_n 1 d_X12_print_0 rfl rfl rfl) ?_
  refine gg_st (go_i2l d_X12_print_1 rfl) ?_
  refine gg_st (go_lconst d_X12_print_2 (v := (0 : Int64)) (by decide) rfl) ?_
  refine gg_st (go_aload_n 0 d_X12_print_3 rfl rfl rfl) ?_
  refine gg_st (go_getI (j := 18) cf12 sM_0 rfl (by decide) fl_X12_182 d_X12_print_4 rfl) ?_
  refine gg_st (go_iconst d_X12_print_7 ci_1 rfl) ?_
  refine gg_st (go_isub d_X12_print_8 rfl) ?_
  refine gg_st (go_i2l d_X12_print_9 rfl) ?_
  refine gs_I (k_X12_in l w (p1.toInt64) (0 : Int64) (((σ.1 (0) 18) - (1 : Int32)).toInt64) σ) cs_X12_191 (Nat.le_of_ble_eq_true rfl) rfl rfl (Nat.le_of_ble_eq_true rfl) d_X12_print_10 rfl (fun x1 => ?_)
  refine gg_br (br_if_ne (tgt := 20) (pc' := 16) d_X12_print_13 (by decide) rfl) (fun h3 => ?_) (fun h3 => ?_)
  · refine gg_st (go_sipush d_X12_print_16 cs_m1001 rfl) ?_
    exact gg_iret rfl d_X12_print_19 rfl
  · refine gg_st (go_aload_n 0 d_X12_print_20 rfl rfl rfl) ?_
    refine gg_st (go_iconst d_X12_print_21 ci_0 rfl) ?_
    refine gg_st (go_putI (j := 28) cf12 sM_0 rfl (by decide) rfl rfl fl_X12_401 d_X12_print_22 rfl) ?_
    refine gg_som (fun s4 => ?_)
    refine gg_st (go_iconst d_X12_print_25 ci_0 rfl) ?_
    refine gg_st (go_istore_n 2 d_X12_print_26 rfl (by decide) (L' := [some (.ref (0)), some (.int p1), some (.int (0 : Int32)), none, none, none, none, none, none]) rfl rfl) ?_
    refine gg_st (go_aload_n 0 d_X12_print_27 rfl rfl rfl) ?_
    refine gg_st (go_getR (j := 17) cf12 sM_0 rfl (by decide) fl_X12_55 d_X12_print_28 rfl) ?_
    refine gg_st (go_iload_n 1 d_X12_print_31 rfl rfl rfl) ?_
    refine gg_gd (fun h5 => ?_)
    refine gg_st (go_iald sM_14 h5 d_X12_print_32 rfl) ?_
    refine gg_nm (fun _ => [some (.ref (0)), some (.int p1), some (.int (0 : Int32)), none, none, none, none, none, none]) (fun (x6 : Int32) => [.int x6]) (fun x6 => ?_)
    refine gg_st (go_istore_n 3 d_X12_print_33 rfl (by decide) (L' := [some (.ref (0)), some (.int p1), some (.int (0 : Int32)), some (.int x6), none, none, none, none, none]) rfl rfl) ?_
    refine gg_st (go_iconst d_X12_print_34 ci_1 rfl) ?_
    refine gg_st (go_istore 4 d_X12_print_35 (by decide) (L' := [some (.ref (0)), some (.int p1), some (.int (0 : Int32)), some (.int x6), some (.int (1 : Int32)), none, none, none, none]) rfl rfl) ?_
    refine gg_st (go_fg [some (.ref (0)), none, some (.int (0 : Int32)), some (.int x6), some (.int (1 : Int32)), none, none, none, none] ⟨rfl, ⟨rfl, ⟨rfl, ⟨rfl, trivial⟩⟩⟩⟩) ?_
    refine gg_bind 297 (fun (t65 : St) => [some (.ref (0)), none, none, none, none, none, none, none, none]) (fun (t65 : St) => []) (fun (t65 : St) => t65) (g_f_X12_print_L37 l w F F (0 : Int32) x6 (1 : Int32) s4) (fun t65 => ?_)
    refine gg_st (go_aload_n 0 d_X12_print_297 rfl rfl rfl) ?_
    refine gg_st (go_getI (j := 28) cf12 sM_0 rfl (by decide) fl_X12_401 d_X12_print_298 rfl) ?_
    exact gg_iret rfl d_X12_print_301 rfl
