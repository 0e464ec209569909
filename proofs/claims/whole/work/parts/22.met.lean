def f_X4_copyFrom (a : Nat) (b : Nat) (σ : St) : Option (St) :=
  Option.bind (some (setr σ (a + 1) (va_cpy (σ.1 (b + 1)) (σ.1 (a + 1)) (ix (0 : Int32)) (ix (0 : Int32)) (ix (400 : Int32))))) fun s1 =>
  Option.bind (some (setr s1 (a + 2) (va_cpy (s1.1 (b + 2)) (s1.1 (a + 2)) (ix (0 : Int32)) (ix (0 : Int32)) (ix (3200 : Int32))))) fun s2 =>
  Option.bind (some (setr s2 (a + 3) (va_cpy (s2.1 (b + 3)) (s2.1 (a + 3)) (ix (0 : Int32)) (ix (0 : Int32)) (ix (8 : Int32))))) fun s3 =>
  Option.bind (some (seti s3 a 3 (s3.1 b 3))) fun s4 =>
  Option.bind (some (seti s4 a 4 (s4.1 b 4))) fun s5 =>
  Option.bind (some (seti s5 a 5 (s5.1 b 5))) fun s6 =>
  Option.bind (some (seti s6 a 6 (s6.1 b 6))) fun s7 =>
  some s7
set_option maxRecDepth 20000 in
theorem k_X4_copyFrom (l : Launch) (w : Wo) {a : Nat} (ha : a ∈ st39_43_47_51_77) {b : Nat} (hb : b ∈ st39_43_47_51_77) (σ : St) : K l w shC m_X4_copyFrom 1 [.ref a, .ref b] σ (f_X4_copyFrom a b σ) (rV) := by
  refine k_of (L := [some (.ref a), some (.ref b)]) (plainFor_of_name (by decide +kernel)) 0 rfl (Nat.le_of_ble_eq_true rfl) ?_
  unfold f_X4_copyFrom
  refine gg_st (go_aload_n 1 d_X4_copyFrom_0 rfl rfl rfl) ?_
  refine gg_st (go_getR (j := 0) cf4 (sC_st39_43_47_51_77_0 hb) rfl (by decide) fl_X4_9 d_X4_copyFrom_1 rfl) ?_
  refine gg_st (go_iconst d_X4_copyFrom_4 ci_0 rfl) ?_
  refine gg_st (go_aload_n 0 d_X4_copyFrom_5 rfl rfl rfl) ?_
  refine gg_st (go_getR (j := 0) cf4 (sC_st39_43_47_51_77_0 ha) rfl (by decide) fl_X4_9 d_X4_copyFrom_6 rfl) ?_
  refine gg_st (go_iconst d_X4_copyFrom_9 ci_0 rfl) ?_
  refine gg_st (go_sipush d_X4_copyFrom_10 cs_400 rfl) ?_
  refine gg_st (go_copy (sC_st39_43_47_51_77_1 hb) (sC_st39_43_47_51_77_1 ha) (by decide) (by decide) (by decide) (by decide) (by decide) (by decide) rfl ml_X4_40 d_X4_copyFrom_13 rfl) ?_
  refine gg_som (fun s1 => ?_)
  refine gg_st (go_aload_n 1 d_X4_copyFrom_16 rfl rfl rfl) ?_
  refine gg_st (go_getR (j := 1) cf4 (sC_st39_43_47_51_77_0 hb) rfl (by decide) fl_X4_15 d_X4_copyFrom_17 rfl) ?_
  refine gg_st (go_iconst d_X4_copyFrom_20 ci_0 rfl) ?_
  refine gg_st (go_aload_n 0 d_X4_copyFrom_21 rfl rfl rfl) ?_
  refine gg_st (go_getR (j := 1) cf4 (sC_st39_43_47_51_77_0 ha) rfl (by decide) fl_X4_15 d_X4_copyFrom_22 rfl) ?_
  refine gg_st (go_iconst d_X4_copyFrom_25 ci_0 rfl) ?_
  refine gg_st (go_sipush d_X4_copyFrom_26 cs_3200 rfl) ?_
  refine gg_st (go_copy (sC_st39_43_47_51_77_2 hb) (sC_st39_43_47_51_77_2 ha) (by decide) (by decide) (by decide) (by decide) (by decide) (by decide) rfl ml_X4_40 d_X4_copyFrom_29 rfl) ?_
  refine gg_som (fun s2 => ?_)
  refine gg_st (go_aload_n 1 d_X4_copyFrom_32 rfl rfl rfl) ?_
  refine gg_st (go_getR (j := 2) cf4 (sC_st39_43_47_51_77_0 hb) rfl (by decide) fl_X4_18 d_X4_copyFrom_33 rfl) ?_
  refine gg_st (go_iconst d_X4_copyFrom_36 ci_0 rfl) ?_
  refine gg_st (go_aload_n 0 d_X4_copyFrom_37 rfl rfl rfl) ?_
  refine gg_st (go_getR (j := 2) cf4 (sC_st39_43_47_51_77_0 ha) rfl (by decide) fl_X4_18 d_X4_copyFrom_38 rfl) ?_
  refine gg_st (go_iconst d_X4_copyFrom_41 ci_0 rfl) ?_
  refine gg_st (go_bipush d_X4_copyFrom_42 cb_8 rfl) ?_
  refine gg_st (go_copy (sC_st39_43_47_51_77_3 hb) (sC_st39_43_47_51_77_3 ha) (by decide) (by decide) (by decide) (by decide) (by decide) (by decide) rfl ml_X4_40 d_X4_copyFrom_44 rfl) ?_
  refine gg_som (fun s3 => ?_)
  refine gg_st (go_aload_n 0 d_X4_copyFrom_47 rfl rfl rfl) ?_
  refine gg_st (go_aload_n 1 d_X4_copyFrom_48 rfl rfl rfl) ?_
  refine gg_st (go_getI (j := 3) cf4 (sC_st39_43_47_51_77_0 hb) rfl (by decide) fl_X4_27 d_X4_copyFrom_49 rfl) ?_
  refine gg_st (go_putI (j := 3) cf4 (sC_st39_43_47_51_77_0 ha) rfl (by decide) rfl rfl fl_X4_27 d_X4_copyFrom_52 rfl) ?_
  refine gg_som (fun s4 => ?_)
  refine gg_st (go_aload_n 0 d_X4_copyFrom_55 rfl rfl rfl) ?_
  refine gg_st (go_aload_n 1 d_X4_copyFrom_56 rfl rfl rfl) ?_
  refine gg_st (go_getI (j := 4) cf4 (sC_st39_43_47_51_77_0 hb) rfl (by decide) fl_X4_31 d_X4_copyFrom_57 rfl) ?_
  refine gg_st (go_putI (j := 4) cf4 (sC_st39_43_47_51_77_0 ha) rfl (by decide) rfl rfl fl_X4_31 d_X4_copyFrom_60 rfl) ?_
  refine gg_som (fun s5 => ?_)
  refine gg_st (go_aload_n 0 d_X4_copyFrom_63 rfl rfl rfl) ?_
  refine gg_st (go_aload_n 1 d_X4_copyFrom_64 rfl rfl rfl) ?_
  refine gg_st (go_getI (j := 5) cf4 (sC_st39_43_47_51_77_0 hb) rfl (by decide) fl_X4_34 d_X4_copyFrom_65 rfl) ?_
  refine gg_st (go_putI (j := 5) cf4 (sC_st39_43_47_51_77_0 ha) rfl (by decide) rfl rfl fl_X4_34 d_X4_copyFrom_68 rfl) ?_
  refine gg_som (fun s6 => ?_)
  refine gg_st (go_aload_n 0 d_X4_copyFrom_71 rfl rfl rfl) ?_
  refine gg_st (go_aload_n 1 d_X4_copyFrom_72 rfl rfl rfl) ?_
  refine gg_st (go_getI (j := 6) cf4 (sC_st39_43_47_51_77_0 hb) rfl (by decide) fl_X4_37 d_X4_copyFrom_73 rfl) ?_
  refine gg_st (go_putI (j := 6) cf4 (sC_st39_43_47_51_77_0 ha) rfl (by decide) rfl rfl fl_X4_37 d_X4_copyFrom_76 rfl) ?_
  refine gg_som (fun s7 => ?_)
  exact gg_vret rfl d_X4_copyFrom_79 rfl
def f_X11_choosePair (F : Nat) (p1 : Int32) (σ : St) : Option (Int32 × St) :=
  if p1 = 0 then (
    Option.bind (f_X0_alivePairAt F (0 : Int32) σ) fun x2 =>
    some (x2, σ))
  else (
    if p1 = (1 : Int32) then (
      Option.bind (f_X0_greatestAlivePair F σ) fun x4 =>
      some (x4, σ))
    else (
      Option.bind (f_X0_countPairs F (1 : Int32) σ) fun x5 =>
      if x5 ≤ 0 then (
        some ((-1 : Int32), σ))
      else (
        Option.bind (some (setl σ (0) 9 (((σ.2 (0) 9) * (6364136223846793005 : Int64)) + (1442695040888963407 : Int64)))) fun s8 =>
        if ¬ x5.toInt64 = 0 then (
          Option.bind (f_X0_alivePairAt F (((((s8.2 (0) 9).toUInt64 >>> ((33 : Int32).toInt64.toUInt64 &&& Int64.toUInt64 63)).toInt64) - (((s8.2 (0) 9).toUInt64 >>> ((33 : Int32).toInt64.toUInt64 &&& Int64.toUInt64 63)).toInt64) / (x5.toInt64) * (x5.toInt64)).toInt32) s8) fun x10 =>
          some (x10, s8))
        else none)))
set_option maxRecDepth 20000 in
theorem k_X11_choosePair (l : Launch) (w : Wo) (F : Nat) (p1 : Int32) (σ : St) : K l w shC m_X11_choosePair 6 [.ref (0), .int p1] σ (f_X11_choosePair F p1 σ) (rIS) := by
  refine k_of (L := [some (.ref (0)), some (.int p1), none]) (plainFor_of_name (by decide +kernel)) 1 rfl (Nat.le_of_ble_eq_true rfl) ?_
  unfold f_X11_choosePair
  refine gg_st (go_iload_n 1 d_X11_choosePair_0 rfl rfl rfl) ?_
  refine gg_br (br_if_ne (tgt := 13) (pc' := 4) d_X11_choosePair_1 (by decide) rfl) (fun h1 => ?_) (fun h1 => ?_)
  · refine gg_st (go_aload_n 0 d_X11_choosePair_4 rfl rfl rfl) ?_
    refine gg_st (go_getR (j := 8) cf11 sC_0 rfl (by decide) fl_X11_61 d_X11_choosePair_5 rfl) ?_
    refine gg_st (go_iconst d_X11_choosePair_8 ci_0 rfl) ?_
    refine gv_I (k_X0_alivePairAt l w F (0 : Int32) σ) cv_X11_190 sC_64 (Nat.le_of_ble_eq_true rfl) rfl rfl (Nat.le_of_ble_eq_true rfl) d_X11_choosePair_9 rfl (fun x2 => ?_)
    exact gg_iret rfl d_X11_choosePair_12 rfl
  · refine gg_st (go_iload_n 1 d_X11_choosePair_13 rfl rfl rfl) ?_
    refine gg_st (go_iconst d_X11_choosePair_14 ci_1 rfl) ?_
    refine gg_br (br_icmp_ne (tgt := 26) (pc' := 18) d_X11_choosePair_15 (by decide) rfl) (fun h3 => ?_) (fun h3 => ?_)
    · refine gg_st (go_aload_n 0 d_X11_choosePair_18 rfl rfl rfl) ?_
      refine gg_st (go_getR (j := 8) cf11 sC_0 rfl (by decide) fl_X11_61 d_X11_choosePair_19 rfl) ?_
      refine gv_I (k_X0_greatestAlivePair l w F  σ) cv_X11_263 sC_64 (Nat.le_of_ble_eq_true rfl) rfl rfl (Nat.le_of_ble_eq_true rfl) d_X11_choosePair_22 rfl (fun x4 => ?_)
      exact gg_iret rfl d_X11_choosePair_25 rfl
    · refine gg_st (go_aload_n 0 d_X11_choosePair_26 rfl rfl rfl) ?_
      refine gg_st (go_getR (j := 8) cf11 sC_0 rfl (by decide) fl_X11_61 d_X11_choosePair_27 rfl) ?_
      refine gg_st (go_iconst d_X11_choosePair_30 ci_1 rfl) ?_
      refine gv_I (k_X0_countPairs l w F (1 : Int32) σ) cv_X11_128 sC_64 (Nat.le_of_ble_eq_true rfl) rfl rfl (Nat.le_of_ble_eq_true rfl) d_X11_choosePair_31 rfl (fun x5 => ?_)
      refine gg_st (go_istore_n 2 d_X11_choosePair_34 rfl (by decide) (L' := [some (.ref (0)), some (.int p1), some (.int x5)]) rfl rfl) ?_
      refine gg_st (go_iload_n 2 d_X11_choosePair_35 rfl rfl rfl) ?_
      refine gg_br (br_if_gt (tgt := 41) (pc' := 39) d_X11_choosePair_36 (by decide) rfl) (fun h7 => ?_) (fun h7 => ?_)
      · refine gg_st (go_iconst d_X11_choosePair_39 ci_m1 rfl) ?_
        exact gg_iret rfl d_X11_choosePair_40 rfl
      · refine gg_st (go_aload_n 0 d_X11_choosePair_41 rfl rfl rfl) ?_
        refine gg_st (go_aload_n 0 d_X11_choosePair_42 rfl rfl rfl) ?_
        refine gg_st (go_getL (j := 9) cf11 sC_0 rfl (by decide) fl_X11_65 d_X11_choosePair_43 rfl) ?_
        refine gg_st (go_ldc2 ll_X11_266 d_X11_choosePair_46 rfl) ?_
        refine gg_st (go_lmul d_X11_choosePair_49 rfl) ?_
        refine gg_st (go_ldc2 ll_X11_268 d_X11_choosePair_50 rfl) ?_
        refine gg_st (go_ladd d_X11_choosePair_53 rfl) ?_
        refine gg_st (go_putL (j := 9) cf11 sC_0 rfl (by decide) rfl rfl fl_X11_65 d_X11_choosePair_54 rfl) ?_
        refine gg_som (fun s8 => ?_)
        refine gg_st (go_aload_n 0 d_X11_choosePair_57 rfl rfl rfl) ?_
        refine gg_st (go_getR (j := 8) cf11 sC_0 rfl (by decide) fl_X11_61 d_X11_choosePair_58 rfl) ?_
        refine gg_st (go_aload_n 0 d_X11_choosePair_61 rfl rfl rfl) ?_
        refine gg_st (go_getL (j := 9) cf11 sC_0 rfl (by decide) fl_X11_65 d_X11_choosePair_62 rfl) ?_
        refine gg_st (go_bipush d_X11_choosePair_65 cb_33 rfl) ?_
        refine gg_st (go_lushr d_X11_choosePair_67 rfl) ?_
        refine gg_st (go_iload_n 2 d_X11_choosePair_68 rfl rfl rfl) ?_
        refine gg_st (go_i2l d_X11_choosePair_69 rfl) ?_
        refine gg_gd (fun h9 => ?_)
        refine gg_st (go_lrem d_X11_choosePair_70 h9 rfl) ?_
        refine gg_st (go_l2i d_X11_choosePair_71 rfl) ?_
        refine gv_I (k_X0_alivePairAt l w F (((((s8.2 (0) 9).toUInt64 >>> ((33 : Int32).toInt64.toUInt64 &&& Int64.toUInt64 63)).toInt64) - (((s8.2 (0) 9).toUInt64 >>> ((33 : Int32).toInt64.toUInt64 &&& Int64.toUInt64 63)).toInt64) / (x5.toInt64) * (x5.toInt64)).toInt32) s8) cv_X11_190 sC_64 (Nat.le_of_ble_eq_true rfl) rfl rfl (Nat.le_of_ble_eq_true rfl) d_X11_choosePair_72 rfl (fun x10 => ?_)
        exact gg_iret rfl d_X11_choosePair_75 rfl
def f_X11_count (F : Nat) (p1 : Int32) (σ : St) : Option (Int32 × St) :=
  if p1 = 0 then (
    some (σ.1 (65) 3, σ))
  else (
    if p1 = 1 then (
      some (σ.1 (69) 7, σ))
    else (
      if p1 = 2 then (
        some (σ.1 (77) 3, σ))
      else (
        if p1 = 3 then (
          some (σ.1 (77) 4, σ))
        else (
          if p1 = 4 then (
            some (σ.1 (77) 5, σ))
          else (
            if p1 = 5 then (
              Option.bind (f_X0_countPairs F (1 : Int32) σ) fun x1 =>
              some (x1, σ))
            else (
              if p1 = 6 then (
                Option.bind (f_X0_countPairs F (0 : Int32) σ) fun x2 =>
                some (x2, σ))
              else (
                if p1 = 7 then (
                  Option.bind (f_X10_countCircles F σ) fun x3 =>
                  some (x3.1, x3.2))
                else (
                  if p1 = 8 then (
                    some (σ.1 (36) 1, σ))
                  else (
                    if p1 = 9 then (
                      some (σ.1 (36) 2, σ))
                    else (
                      if p1 = 10 then (
                        some (σ.1 (36) 3, σ))
                      else (
                        if p1 = 11 then (
                          if (σ.1 (36) 4) = 0 then (
                            some ((0 : Int32), σ))
                          else (
                            some ((1 : Int32), σ)))
                        else (
                          if p1 = 12 then (
                            some (σ.1 (62) 1, σ))
                          else (
                            some ((-1002 : Int32), σ))))))))))))))
set_option maxRecDepth 20000 in
theorem k_X11_count (l : Launch) (w : Wo) (F : Nat) (p1 : Int32) (σ : St) : K l w shC m_X11_count 6 [.ref (0), .int p1] σ (f_X11_count F p1 σ) (rIS) := by
  refine k_of (L := [some (.ref (0)), some (.int p1)]) (plainFor_of_name (by decide +kernel)) 0 rfl (Nat.le_of_ble_eq_true rfl) ?_
  unfold f_X11_count
  refine gg_st (go_iload_n 1 d_X11_count_0 rfl rfl rfl) ?_
  refine gg_ite (fun h1_0 => ?_) (fun h1_0 => ?_)
  · refine gg_st (go_tableIn (pc' := 68) (by rw [h1_0]; decide) (by rw [h1_0]; decide) (by rw [h1_0]; rfl) (by decide) d_X11_count_1) ?_
    refine gg_st (go_aload_n 0 d_X11_count_68 rfl rfl rfl) ?_
    refine gg_st (go_getR (j := 8) cf11 sC_0 rfl (by decide) fl_X11_61 d_X11_count_69 rfl) ?_
    refine gg_st (go_getR (j := 0) cf0 sC_64 rfl (by decide) fl_X11_108 d_X11_count_72 rfl) ?_
    refine gg_st (go_getI (j := 3) cf3 sC_65 rfl (by decide) fl_X11_112 d_X11_count_75 rfl) ?_
    exact gg_iret rfl d_X11_count_78 rfl
  · refine gg_ite (fun h1_1 => ?_) (fun h1_1 => ?_)
    · refine gg_st (go_tableIn (pc' := 79) (by rw [h1_1]; decide) (by rw [h1_1]; decide) (by rw [h1_1]; rfl) (by decide) d_X11_count_1) ?_
      refine gg_st (go_aload_n 0 d_X11_count_79 rfl rfl rfl) ?_
      refine gg_st (go_getR (j := 8) cf11 sC_0 rfl (by decide) fl_X11_61 d_X11_count_80 rfl) ?_
      refine gg_st (go_getR (j := 1) cf0 sC_64 rfl (by decide) fl_X11_115 d_X11_count_83 rfl) ?_
      refine gg_st (go_getI (j := 7) cf8 sC_69 rfl (by decide) fl_X11_119 d_X11_count_86 rfl) ?_
      exact gg_iret rfl d_X11_count_89 rfl
    · refine gg_ite (fun h1_2 => ?_) (fun h1_2 => ?_)
      · refine gg_st (go_tableIn (pc' := 90) (by rw [h1_2]; decide) (by rw [h1_2]; decide) (by rw [h1_2]; rfl) (by decide) d_X11_count_1) ?_
        refine gg_st (go_aload_n 0 d_X11_count_90 rfl rfl rfl) ?_
        refine gg_st (go_getR (j := 8) cf11 sC_0 rfl (by decide) fl_X11_61 d_X11_count_91 rfl) ?_
        refine gg_st (go_getR (j := 2) cf0 sC_64 rfl (by decide) fl_X11_92 d_X11_count_94 rfl) ?_
        refine gg_st (go_getI (j := 3) cf4 sC_77 rfl (by decide) fl_X11_96 d_X11_count_97 rfl) ?_
        exact gg_iret rfl d_X11_count_100 rfl
      · refine gg_ite (fun h1_3 => ?_) (fun h1_3 => ?_)
        · refine gg_st (go_tableIn (pc' := 101) (by rw [h1_3]; decide) (by rw [h1_3]; decide) (by rw [h1_3]; rfl) (by decide) d_X11_count_1) ?_
          refine gg_st (go_aload_n 0 d_X11_count_101 rfl rfl rfl) ?_
          refine gg_st (go_getR (j := 8) cf11 sC_0 rfl (by decide) fl_X11_61 d_X11_count_102 rfl) ?_
          refine gg_st (go_getR (j := 2) cf0 sC_64 rfl (by decide) fl_X11_92 d_X11_count_105 rfl) ?_
          refine gg_st (go_getI (j := 4) cf4 sC_77 rfl (by decide) fl_X11_122 d_X11_count_108 rfl) ?_
          exact gg_iret rfl d_X11_count_111 rfl
        · refine gg_ite (fun h1_4 => ?_) (fun h1_4 => ?_)
          · refine gg_st (go_tableIn (pc' := 112) (by rw [h1_4]; decide) (by rw [h1_4]; decide) (by rw [h1_4]; rfl) (by decide) d_X11_count_1) ?_
            refine gg_st (go_aload_n 0 d_X11_count_112 rfl rfl rfl) ?_
            refine gg_st (go_getR (j := 8) cf11 sC_0 rfl (by decide) fl_X11_61 d_X11_count_113 rfl) ?_
            refine gg_st (go_getR (j := 2) cf0 sC_64 rfl (by decide) fl_X11_92 d_X11_count_116 rfl) ?_
            refine gg_st (go_getI (j := 5) cf4 sC_77 rfl (by decide) fl_X11_125 d_X11_count_119 rfl) ?_
            exact gg_iret rfl d_X11_count_122 rfl
          · refine gg_ite (fun h1_5 => ?_) (fun h1_5 => ?_)
            · refine gg_st (go_tableIn (pc' := 123) (by rw [h1_5]; decide) (by rw [h1_5]; decide) (by rw [h1_5]; rfl) (by decide) d_X11_count_1) ?_
              refine gg_st (go_aload_n 0 d_X11_count_123 rfl rfl rfl) ?_
              refine gg_st (go_getR (j := 8) cf11 sC_0 rfl (by decide) fl_X11_61 d_X11_count_124 rfl) ?_
              refine gg_st (go_iconst d_X11_count_127 ci_1 rfl) ?_
              refine gv_I (k_X0_countPairs l w F (1 : Int32) σ) cv_X11_128 sC_64 (Nat.le_of_ble_eq_true rfl) rfl rfl (Nat.le_of_ble_eq_true rfl) d_X11_count_128 rfl (fun x1 => ?_)
              exact gg_iret rfl d_X11_count_131 rfl
            · refine gg_ite (fun h1_6 => ?_) (fun h1_6 => ?_)
              · refine gg_st (go_tableIn (pc' := 132) (by rw [h1_6]; decide) (by rw [h1_6]; decide) (by rw [h1_6]; rfl) (by decide) d_X11_count_1) ?_
                refine gg_st (go_aload_n 0 d_X11_count_132 rfl rfl rfl) ?_
                refine gg_st (go_getR (j := 8) cf11 sC_0 rfl (by decide) fl_X11_61 d_X11_count_133 rfl) ?_
                refine gg_st (go_iconst d_X11_count_136 ci_0 rfl) ?_
                refine gv_I (k_X0_countPairs l w F (0 : Int32) σ) cv_X11_128 sC_64 (Nat.le_of_ble_eq_true rfl) rfl rfl (Nat.le_of_ble_eq_true rfl) d_X11_count_137 rfl (fun x2 => ?_)
                exact gg_iret rfl d_X11_count_140 rfl
              · refine gg_ite (fun h1_7 => ?_) (fun h1_7 => ?_)
                · refine gg_st (go_tableIn (pc' := 141) (by rw [h1_7]; decide) (by rw [h1_7]; decide) (by rw [h1_7]; rfl) (by decide) d_X11_count_1) ?_
                  refine gg_st (go_aload_n 0 d_X11_count_141 rfl rfl rfl) ?_
                  refine gg_st (go_getR (j := 5) cf11 sC_0 rfl (by decide) fl_X11_44 d_X11_count_142 rfl) ?_
                  refine gg_st (go_aload_n 0 d_X11_count_145 rfl rfl rfl) ?_
                  refine gg_st (go_getR (j := 8) cf11 sC_0 rfl (by decide) fl_X11_61 d_X11_count_146 rfl) ?_
                  refine gg_st (go_getR (j := 2) cf0 sC_64 rfl (by decide) fl_X11_92 d_X11_count_149 rfl) ?_
                  refine gv_IS (k_X10_countCircles l w F  σ) cv_X11_132 sC_56 (Nat.le_of_ble_eq_true rfl) rfl rfl (Nat.le_of_ble_eq_true rfl) d_X11_count_152 rfl (fun x3 => ?_)
                  exact gg_iret rfl d_X11_count_155 rfl
                · refine gg_ite (fun h1_8 => ?_) (fun h1_8 => ?_)
                  · refine gg_st (go_tableIn (pc' := 156) (by rw [h1_8]; decide) (by rw [h1_8]; decide) (by rw [h1_8]; rfl) (by decide) d_X11_count_1) ?_
                    refine gg_st (go_aload_n 0 d_X11_count_156 rfl rfl rfl) ?_
                    refine gg_st (go_getR (j := 2) cf11 sC_0 rfl (by decide) fl_X11_26 d_X11_count_157 rfl) ?_
                    refine gg_st (go_getI (j := 1) cf2 sC_36 rfl (by decide) fl_X11_136 d_X11_count_160 rfl) ?_
                    exact gg_iret rfl d_X11_count_163 rfl
                  · refine gg_ite (fun h1_9 => ?_) (fun h1_9 => ?_)
                    · refine gg_st (go_tableIn (pc' := 164) (by rw [h1_9]; decide) (by rw [h1_9]; decide) (by rw [h1_9]; rfl) (by decide) d_X11_count_1) ?_
                      refine gg_st (go_aload_n 0 d_X11_count_164 rfl rfl rfl) ?_
                      refine gg_st (go_getR (j := 2) cf11 sC_0 rfl (by decide) fl_X11_26 d_X11_count_165 rfl) ?_
                      refine gg_st (go_getI (j := 2) cf2 sC_36 rfl (by decide) fl_X11_139 d_X11_count_168 rfl) ?_
                      exact gg_iret rfl d_X11_count_171 rfl
                    · refine gg_ite (fun h1_10 => ?_) (fun h1_10 => ?_)
                      · refine gg_st (go_tableIn (pc' := 172) (by rw [h1_10]; decide) (by rw [h1_10]; decide) (by rw [h1_10]; rfl) (by decide) d_X11_count_1) ?_
                        refine gg_st (go_aload_n 0 d_X11_count_172 rfl rfl rfl) ?_
                        refine gg_st (go_getR (j := 2) cf11 sC_0 rfl (by decide) fl_X11_26 d_X11_count_173 rfl) ?_
                        refine gg_st (go_getI (j := 3) cf2 sC_36 rfl (by decide) fl_X11_142 d_X11_count_176 rfl) ?_
                        exact gg_iret rfl d_X11_count_179 rfl
                      · refine gg_ite (fun h1_11 => ?_) (fun h1_11 => ?_)
                        · refine gg_st (go_tableIn (pc' := 180) (by rw [h1_11]; decide) (by rw [h1_11]; decide) (by rw [h1_11]; rfl) (by decide) d_X11_count_1) ?_
                          refine gg_st (go_aload_n 0 d_X11_count_180 rfl rfl rfl) ?_
                          refine gg_st (go_getR (j := 2) cf11 sC_0 rfl (by decide) fl_X11_26 d_X11_count_181 rfl) ?_
                          refine gg_st (go_getI (j := 4) cf2 sC_36 rfl (by decide) fl_X11_145 d_X11_count_184 rfl) ?_
                          refine gg_br (br_if_eq (tgt := 194) (pc' := 190) d_X11_count_187 (by decide) rfl) (fun h4 => ?_) (fun h4 => ?_)
                          · refine gg_st (go_iconst d_X11_count_194 ci_0 rfl) ?_
                            exact gg_iret rfl d_X11_count_195 rfl
                          · refine gg_st (go_iconst d_X11_count_190 ci_1 rfl) ?_
                            refine gg_st (go_goto (pc' := 195) d_X11_count_191 (by decide)) ?_
                            exact gg_iret rfl d_X11_count_195 rfl
                        · refine gg_ite (fun h1_12 => ?_) (fun h1_12 => ?_)
                          · refine gg_st (go_tableIn (pc' := 196) (by rw [h1_12]; decide) (by rw [h1_12]; decide) (by rw [h1_12]; rfl) (by decide) d_X11_count_1) ?_
                            refine gg_st (go_aload_n 0 d_X11_count_196 rfl rfl rfl) ?_
                            refine gg_st (go_getR (j := 7) cf11 sC_0 rfl (by decide) fl_X11_54 d_X11_count_197 rfl) ?_
                            refine gg_st (go_getI (j := 1) cf5 sC_62 rfl (by decide) fl_X11_149 d_X11_count_200 rfl) ?_
                            exact gg_iret rfl d_X11_count_203 rfl
                          · refine gg_st (go_tableOut (pc' := 204) (sw_out13 h1_0 h1_1 h1_2 h1_3 h1_4 h1_5 h1_6 h1_7 h1_8 h1_9 h1_10 h1_11 h1_12) (by decide) d_X11_count_1) ?_
                            refine gg_st (go_sipush d_X11_count_204 cs_m1002 rfl) ?_
                            exact gg_iret rfl d_X11_count_207 rfl
