def f_X12_told (p1 : Int32) : Int32 :=
  if p1 < (1000 : Int32) then (
    p1)
  else (
    ((60 : Int32) + p1) - (1200 : Int32))
set_option maxRecDepth 20000 in
theorem k_X12_told (l : Launch) (w : Wo) (p1 : Int32) (σ : St) : K l w shM m_X12_told 1 [.int p1] σ (some (f_X12_told p1)) (rI σ) := by
  refine k_of (L := [some (.int p1)]) (plainFor_of_name (by decide +kernel)) 0 rfl (Nat.le_of_ble_eq_true rfl) ?_
  unfold f_X12_told
  refine gg_st (go_iload_n 0 d_X12_told_0 rfl rfl rfl) ?_
  refine gg_st (go_sipush d_X12_told_1 cs_1000 rfl) ?_
  refine gg_brv (f := fun z => some z) (br_icmp_ge (tgt := 11) (pc' := 7) d_X12_told_4 (by decide) rfl) (fun h1 => ?_) (fun h1 => ?_)
  · refine gg_st (go_iload_n 0 d_X12_told_7 rfl rfl rfl) ?_
    refine gg_st (go_goto (pc' := 19) d_X12_told_8 (by decide)) ?_
    exact gg_iret rfl d_X12_told_19 rfl
  · refine gg_st (go_bipush d_X12_told_11 cb_60 rfl) ?_
    refine gg_st (go_iload_n 0 d_X12_told_13 rfl rfl rfl) ?_
    refine gg_st (go_iadd d_X12_told_14 rfl) ?_
    refine gg_st (go_sipush d_X12_told_15 cs_1200 rfl) ?_
    refine gg_st (go_isub d_X12_told_18 rfl) ?_
    exact gg_iret rfl d_X12_told_19 rfl
def f_X12_readRule_L106 (F : Nat) (σ : St) : Nat → Int32 → Int32 → Option (Int32)
  | 0, _, _ => none
  | n + 1, v19, v20 =>
    if v20 < (σ.1 (0) 54) then (
      Option.bind (
        Option.bind (some (fun (t25 : Unit) =>
          some (0 : Int32))) fun jp26 =>
        if v19 = 0 then (
          jp26 ())
        else (
          if inb v20 60 then (
            if (σ.1 (31) (ix v20)) = (2 : Int32) then (
              some (1 : Int32))
            else (
              jp26 ()))
          else none)) fun t23 =>
      f_X12_readRule_L106 F σ n t23 (v20 + (1 : Int32)))
    else (
      some v19)
def f_X12_readRule_L323 (F : Nat) (c5 : Int32) (c6 : Int32) : Nat → Int32 → St → Option (St)
  | 0, _, _ => none
  | n + 1, v58, g =>
    if inb c6 200 then (
      if inb (g.1 (27) (ix c6)) 16 then (
        if v58 < (g.1 (18) (ix (g.1 (27) (ix c6)))) then (
          if inb (((5 : Int32) * c6) + v58) 1211 then (
            Option.bind (f_X12_follow F (g.1 (29) (ix (((5 : Int32) * c6) + v58))) g) fun x64 =>
            Option.bind (some (f_X12_told x64.1)) fun x65 =>
            if inb ((((70 : Int32) * c5) + ((5 : Int32) * c6)) + v58) 4200 then (
              Option.bind (some (seti x64.2 (25) (ix ((((70 : Int32) * c5) + ((5 : Int32) * c6)) + v58)) x65)) fun s67 =>
              f_X12_readRule_L323 F c5 c6 n (v58 + (1 : Int32)) s67)
            else none)
          else none)
        else (
          some g))
      else none)
    else none
def f_X12_readRule_L291 (F : Nat) (c5 : Int32) : Nat → Int32 → St → Option (St)
  | 0, _, _ => none
  | n + 1, v52, g =>
    if v52 < (g.1 (0) 49) then (
      if inb v52 200 then (
        if inb (((12 : Int32) * c5) + v52) 720 then (
          Option.bind (some (seti g (24) (ix (((12 : Int32) * c5) + v52)) (g.1 (27) (ix v52)))) fun s57 =>
          Option.bind (f_X12_readRule_L323 F c5 v52 F (0 : Int32) s57) fun t68 =>
          f_X12_readRule_L291 F c5 n (v52 + (1 : Int32)) t68)
        else none)
      else none)
    else (
      some g)
def f_X12_readRule_L401 (F : Nat) (c5 : Int32) (c6 : Int32) : Nat → Int32 → St → Option (St)
  | 0, _, _ => none
  | n + 1, v72, g =>
    if inb c6 2 then (
      if inb (g.1 (32) (ix c6)) 16 then (
        if v72 < (g.1 (18) (ix (g.1 (32) (ix c6)))) then (
          if inb (((1200 : Int32) + ((5 : Int32) * c6)) + v72) 1211 then (
            Option.bind (f_X12_follow F (g.1 (29) (ix (((1200 : Int32) + ((5 : Int32) * c6)) + v72))) g) fun x78 =>
            Option.bind (some (f_X12_told x78.1)) fun x79 =>
            if inb (((((70 : Int32) * c5) + (60 : Int32)) + ((5 : Int32) * c6)) + v72) 4200 then (
              Option.bind (some (seti x78.2 (25) (ix (((((70 : Int32) * c5) + (60 : Int32)) + ((5 : Int32) * c6)) + v72)) x79)) fun s81 =>
              f_X12_readRule_L401 F c5 c6 n (v72 + (1 : Int32)) s81)
            else none)
          else none)
        else (
          some g))
      else none)
    else none
def f_X12_readRule_L392 (F : Nat) (c5 : Int32) : Nat → Int32 → St → Option (St)
  | 0, _, _ => none
  | n + 1, v70, g =>
    if v70 < (2 : Int32) then (
      Option.bind (f_X12_readRule_L401 F c5 v70 F (1 : Int32) g) fun t82 =>
      f_X12_readRule_L392 F c5 n (v70 + (1 : Int32)) t82)
    else (
      some g)
def f_X12_readRule (F : Nat) (σ : St) : Option (Int32 × St) :=
  if (σ.1 (0) 41) = (60 : Int32) then (
    Option.bind (f_X12_fail (4 : Int32) (σ.1 (0) 30) σ) fun x2 =>
    if x2.1 = 0 ∨ x2.1 = 1 then some (x2.1, x2.2) else none)
  else (
    Option.bind (f_X12_beginSheet (12 : Int32) σ) fun s4 =>
    Option.bind (f_X12_take F s4) fun s5 =>
    Option.bind (f_X12_readSide F (0 : Int32) s5) fun x6 =>
    if x6.1 = 0 then (
      some ((0 : Int32), x6.2))
    else (
      if (x6.2.1 (0) 29) = (4 : Int32) then (
        Option.bind (f_X12_take F x6.2) fun s9 =>
        Option.bind (f_X12_readSide F (1 : Int32) s9) fun x10 =>
        if x10.1 = 0 then (
          some ((0 : Int32), x10.2))
        else (
          Option.bind (some (f_X12_isSign (58 : Int32) x10.2)) fun x12 =>
          Option.bind (some (fun (t13 : St) =>
            Option.bind (some (f_X12_isSign (59 : Int32) t13)) fun x15 =>
            if x15 = 0 then (
              Option.bind (f_X12_wrong t13) fun x17 =>
              if x17.1 = 0 ∨ x17.1 = 1 then some (x17.1, x17.2) else none)
            else (
              Option.bind (f_X12_readRule_L106 F t13 F (1 : Int32) (0 : Int32)) fun t30 =>
              Option.bind (some (t13.1 (32) (ix (0 : Int32)))) fun x31 =>
              Option.bind (some (t13.1 (32) (ix (1 : Int32)))) fun x32 =>
              if inb (((16 : Int32) * x31) + x32) 256 then (
                if ((t13.1 (21) (ix (((16 : Int32) * x31) + x32))) < 0) ∧ (¬ (t30 = 0)) then (
                  Option.bind (f_X12_fitAll F t13) fun x34 =>
                  Option.bind (f_X12_fitSides F x34.2) fun x35 =>
                  if (x35.1 = 0) ∨ (x34.1 = 0) then (
                    Option.bind (f_X12_fail (7 : Int32) (x35.2.1 (0) 30) x35.2) fun x36 =>
                    if x36.1 = 0 ∨ x36.1 = 1 then some (x36.1, x36.2) else none)
                  else (
                    Option.bind (some (x35.2.1 (0) 41)) fun x38 =>
                    Option.bind (f_X12_sheetRings F x35.2) fun x39 =>
                    if inb x38 60 then (
                      Option.bind (some (seti x39.2 (26) (ix x38) x39.1)) fun s41 =>
                      if inb (((16 : Int32) * x31) + x32) 256 then (
                        Option.bind (some (seti s41 (21) (ix (((16 : Int32) * x31) + x32)) x38)) fun s43 =>
                        if inb (((16 : Int32) * x32) + x31) 256 then (
                          Option.bind (some (seti s43 (21) (ix (((16 : Int32) * x32) + x31)) x38)) fun s45 =>
                          if inb ((2 : Int32) * x38) 120 then (
                            Option.bind (some (seti s45 (22) (ix ((2 : Int32) * x38)) x31)) fun s47 =>
                            if inb (((2 : Int32) * x38) + (1 : Int32)) 120 then (
                              Option.bind (some (seti s47 (22) (ix (((2 : Int32) * x38) + (1 : Int32))) x32)) fun s49 =>
                              if inb x38 60 then (
                                Option.bind (some (seti s49 (23) (ix x38) (s49.1 (0) 49))) fun s51 =>
                                Option.bind (f_X12_readRule_L291 F x38 F (0 : Int32) s51) fun t69 =>
                                Option.bind (f_X12_readRule_L392 F x38 F (0 : Int32) t69) fun t83 =>
                                Option.bind (some (seti t83 (0) 41 ((t83.1 (0) 41) + (1 : Int32)))) fun s84 =>
                                some ((1 : Int32), s84))
                              else none)
                            else none)
                          else none)
                        else none)
                      else none)
                    else none))
                else (
                  Option.bind (f_X12_fail (6 : Int32) (t13.1 (0) 30) t13) fun x89 =>
                  if x89.1 = 0 ∨ x89.1 = 1 then some (x89.1, x89.2) else none))
              else none))) fun jp14 =>
          if x12 = 0 then (
            jp14 x10.2)
          else (
            Option.bind (f_X12_take F x10.2) fun s96 =>
            Option.bind (f_X12_readLinks F s96) fun x97 =>
            if x97.1 = 0 then (
              some ((0 : Int32), x97.2))
            else (
              jp14 x97.2))))
      else (
        Option.bind (f_X12_wrong x6.2) fun x99 =>
        if x99.1 = 0 ∨ x99.1 = 1 then some (x99.1, x99.2) else none)))
set_option maxRecDepth 20000 in
theorem g_f_X12_readRule_L106 (l : Launch) (w : Wo) (F : Nat) (σ : St) : ∀ (n : Nat) (v19 : Int32) (v20 : Int32), GG l w shM m_X12_readRule 6 106 [some (.ref (0)), some (.int v19), some (.int v20), none, none, none, none, none] [] σ (f_X12_readRule_L106 F σ n v19 v20) (fun (t : Int32) => .inl (140, [some (.ref (0)), some (.int t), none, none, none, none, none, none], [], σ)) := by
  intro n
  induction n with
  | zero =>
    intro v19 v20
    exact gg_none
  | succ n ih =>
    intro v19 v20
    rw [f_X12_readRule_L106]
    refine gg_st (go_iload_n 2 d_X12_readRule_106 rfl rfl rfl) ?_
    refine gg_st (go_aload_n 0 d_X12_readRule_107 rfl rfl rfl) ?_
    refine gg_st (go_getI (j := 54) cf12 sM_0 rfl (by decide) fl_X12_267 d_X12_readRule_108 rfl) ?_
    refine gg_br (br_icmp_ge (tgt := 140) (pc' := 114) d_X12_readRule_111 (by decide) rfl) (fun h22 => ?_) (fun h22 => ?_)
    · refine gg_st (go_iload_n 1 d_X12_readRule_114 rfl rfl rfl) ?_
      refine gg_bind 133 (fun (t23 : Int32) => [some (.ref (0)), none, some (.int v20), none, none, none, none, none]) (fun (t23 : Int32) => [.int t23]) (fun (t23 : Int32) => σ) ?_ (fun t23 => ?_)
      · refine gg_jp 132 (fun (t25 : Unit) => [some (.ref (0)), none, some (.int v20), none, none, none, none, none]) (fun (t25 : Unit) => []) (fun (t25 : Unit) => σ) (fun t25 => ?_) (fun jp26 hjp26 => ?_)
        · refine gg_st (go_iconst d_X12_readRule_132 ci_0 rfl) ?_
          exact gg_end rfl
        refine gg_br (br_if_eq (tgt := 132) (pc' := 118) d_X12_readRule_115 (by decide) rfl) (fun h27 => ?_) (fun h27 => ?_)
        · refine gg_st (go_fg [some (.ref (0)), none, some (.int v20), none, none, none, none, none] ⟨rfl, ⟨rfl, trivial⟩⟩) ?_
          exact hjp26 ()
        · refine gg_st (go_aload_n 0 d_X12_readRule_118 rfl rfl rfl) ?_
          refine gg_st (go_getR (j := 56) cf12 sM_0 rfl (by decide) fl_X12_110 d_X12_readRule_119 rfl) ?_
          refine gg_st (go_iload_n 2 d_X12_readRule_122 rfl rfl rfl) ?_
          refine gg_gd (fun h28 => ?_)
          refine gg_st (go_iald sM_31 h28 d_X12_readRule_123 rfl) ?_
          refine gg_st (go_iconst d_X12_readRule_124 ci_2 rfl) ?_
          refine gg_br (br_icmp_ne (tgt := 132) (pc' := 128) d_X12_readRule_125 (by decide) rfl) (fun h29 => ?_) (fun h29 => ?_)
          · refine gg_st (go_iconst d_X12_readRule_128 ci_1 rfl) ?_
            refine gg_st (go_goto (pc' := 133) d_X12_readRule_129 (by decide)) ?_
            refine gg_st (go_fg [some (.ref (0)), none, some (.int v20), none, none, none, none, none] ⟨rfl, ⟨rfl, trivial⟩⟩) ?_
            exact gg_end rfl
          · refine gg_st (go_fg [some (.ref (0)), none, some (.int v20), none, none, none, none, none] ⟨rfl, ⟨rfl, trivial⟩⟩) ?_
            exact hjp26 ()
      · refine gg_st (go_istore_n 1 d_X12_readRule_133 rfl (by decide) (L' := [some (.ref (0)), some (.int t23), some (.int v20), none, none, none, none, none]) rfl rfl) ?_
        refine gg_st (go_iinc 2 d_X12_readRule_134 rfl (v := v20 + (1 : Int32)) (by rw [ci_1]) (by decide) (L' := [some (.ref (0)), some (.int t23), some (.int (v20 + (1 : Int32))), none, none, none, none, none]) rfl rfl) ?_
        refine gg_st (go_goto (pc' := 106) d_X12_readRule_137 (by decide)) ?_
        exact ih t23 (v20 + (1 : Int32))
    · refine gg_st (go_fg [some (.ref (0)), some (.int v19), none, none, none, none, none, none] ⟨rfl, ⟨rfl, trivial⟩⟩) ?_
      exact gg_end rfl
set_option maxRecDepth 20000 in
theorem g_f_X12_readRule_L323 (l : Launch) (w : Wo) (F : Nat) (c5 : Int32) (c6 : Int32) : ∀ (n : Nat) (v58 : Int32) (g : St), GG l w shM m_X12_readRule 6 323 [some (.ref (0)), none, none, none, none, some (.int c5), some (.int c6), some (.int v58)] [] g (f_X12_readRule_L323 F c5 c6 n v58 g) (fun (t : St) => .inl (383, [some (.ref (0)), none, none, none, none, some (.int c5), some (.int c6), none], [], t)) := by
  intro n
  induction n with
  | zero =>
    intro v58 g
    exact gg_none
  | succ n ih =>
    intro v58 g
    rw [f_X12_readRule_L323]
    refine gg_st (go_iload 7 d_X12_readRule_323 rfl rfl) ?_
    refine gg_st (go_aload_n 0 d_X12_readRule_325 rfl rfl rfl) ?_
    refine gg_st (go_getR (j := 38) cf12 sM_0 rfl (by decide) fl_X12_71 d_X12_readRule_326 rfl) ?_
    refine gg_st (go_aload_n 0 d_X12_readRule_329 rfl rfl rfl) ?_
    refine gg_st (go_getR (j := 51) cf12 sM_0 rfl (by decide) fl_X12_98 d_X12_readRule_330 rfl) ?_
    refine gg_st (go_iload 6 d_X12_readRule_333 rfl rfl) ?_
    refine gg_gd (fun h59 => ?_)
    refine gg_st (go_iald sM_27 h59 d_X12_readRule_335 rfl) ?_
    refine gg_gd (fun h60 => ?_)
    refine gg_st (go_iald sM_18 h60 d_X12_readRule_336 rfl) ?_
    refine gg_br (br_icmp_ge (tgt := 383) (pc' := 340) d_X12_readRule_337 (by decide) rfl) (fun h62 => ?_) (fun h62 => ?_)
    · refine gg_st (go_aload_n 0 d_X12_readRule_340 rfl rfl rfl) ?_
      refine gg_st (go_getR (j := 46) cf12 sM_0 rfl (by decide) fl_X12_92 d_X12_readRule_341 rfl) ?_
      refine gg_st (go_bipush d_X12_readRule_344 cb_70 rfl) ?_
      refine gg_st (go_iload 5 d_X12_readRule_346 rfl rfl) ?_
      refine gg_st (go_imul d_X12_readRule_348 rfl) ?_
      refine gg_st (go_iconst d_X12_readRule_349 ci_5 rfl) ?_
      refine gg_st (go_iload 6 d_X12_readRule_350 rfl rfl) ?_
      refine gg_st (go_imul d_X12_readRule_352 rfl) ?_
      refine gg_st (go_iadd d_X12_readRule_353 rfl) ?_
      refine gg_st (go_iload 7 d_X12_readRule_354 rfl rfl) ?_
      refine gg_st (go_iadd d_X12_readRule_356 rfl) ?_
      refine gg_st (go_aload_n 0 d_X12_readRule_357 rfl rfl rfl) ?_
      refine gg_st (go_aload_n 0 d_X12_readRule_358 rfl rfl rfl) ?_
      refine gg_st (go_getR (j := 53) cf12 sM_0 rfl (by decide) fl_X12_104 d_X12_readRule_359 rfl) ?_
      refine gg_st (go_iconst d_X12_readRule_362 ci_5 rfl) ?_
      refine gg_st (go_iload 6 d_X12_readRule_363 rfl rfl) ?_
      refine gg_st (go_imul d_X12_readRule_365 rfl) ?_
      refine gg_st (go_iload 7 d_X12_readRule_366 rfl rfl) ?_
      refine gg_st (go_iadd d_X12_readRule_368 rfl) ?_
      refine gg_gd (fun h63 => ?_)
      refine gg_st (go_iald sM_29 h63 d_X12_readRule_369 rfl) ?_
      refine gv_IS (k_X12_follow l w F (g.1 (29) (ix (((5 : Int32) * c6) + v58))) g) cv_X12_284 sM_0 (Nat.le_of_ble_eq_true rfl) rfl rfl (Nat.le_of_ble_eq_true rfl) d_X12_readRule_370 rfl (fun x64 => ?_)
      refine gs_I (k_X12_told l w x64.1 x64.2) cs_X12_317 (Nat.le_of_ble_eq_true rfl) rfl rfl (Nat.le_of_ble_eq_true rfl) d_X12_readRule_373 rfl (fun x65 => ?_)
      refine gg_gd (fun h66 => ?_)
      refine gg_st (go_iast sM_25 h66 d_X12_readRule_376 rfl) ?_
      refine gg_som (fun s67 => ?_)
      refine gg_st (go_iinc 7 d_X12_readRule_377 rfl (v := v58 + (1 : Int32)) (by rw [ci_1]) (by decide) (L' := [some (.ref (0)), none, none, none, none, some (.int c5), some (.int c6), some (.int (v58 + (1 : Int32)))]) rfl rfl) ?_
      refine gg_st (go_goto (pc' := 323) d_X12_readRule_380 (by decide)) ?_
      exact ih (v58 + (1 : Int32)) s67
    · refine gg_st (go_fg [some (.ref (0)), none, none, none, none, some (.int c5), some (.int c6), none] ⟨rfl, ⟨rfl, ⟨rfl, trivial⟩⟩⟩) ?_
      exact gg_end rfl
set_option maxRecDepth 20000 in
theorem g_f_X12_readRule_L291 (l : Launch) (w : Wo) (F : Nat) (c5 : Int32) : ∀ (n : Nat) (v52 : Int32) (g : St), GG l w shM m_X12_readRule 6 291 [some (.ref (0)), none, none, none, none, some (.int c5), some (.int v52), none] [] g (f_X12_readRule_L291 F c5 n v52 g) (fun (t : St) => .inl (389, [some (.ref (0)), none, none, none, none, some (.int c5), none, none], [], t)) := by
  intro n
  induction n with
  | zero =>
    intro v52 g
    exact gg_none
  | succ n ih =>
    intro v52 g
    rw [f_X12_readRule_L291]
    refine gg_st (go_iload 6 d_X12_readRule_291 rfl rfl) ?_
    refine gg_st (go_aload_n 0 d_X12_readRule_293 rfl rfl rfl) ?_
    refine gg_st (go_getI (j := 49) cf12 sM_0 rfl (by decide) fl_X12_261 d_X12_readRule_294 rfl) ?_
    refine gg_br (br_icmp_ge (tgt := 389) (pc' := 300) d_X12_readRule_297 (by decide) rfl) (fun h54 => ?_) (fun h54 => ?_)
    · refine gg_st (go_aload_n 0 d_X12_readRule_300 rfl rfl rfl) ?_
      refine gg_st (go_getR (j := 45) cf12 sM_0 rfl (by decide) fl_X12_89 d_X12_readRule_301 rfl) ?_
      refine gg_st (go_bipush d_X12_readRule_304 cb_12 rfl) ?_
      refine gg_st (go_iload 5 d_X12_readRule_306 rfl rfl) ?_
      refine gg_st (go_imul d_X12_readRule_308 rfl) ?_
      refine gg_st (go_iload 6 d_X12_readRule_309 rfl rfl) ?_
      refine gg_st (go_iadd d_X12_readRule_311 rfl) ?_
      refine gg_st (go_aload_n 0 d_X12_readRule_312 rfl rfl rfl) ?_
      refine gg_st (go_getR (j := 51) cf12 sM_0 rfl (by decide) fl_X12_98 d_X12_readRule_313 rfl) ?_
      refine gg_st (go_iload 6 d_X12_readRule_316 rfl rfl) ?_
      refine gg_gd (fun h55 => ?_)
      refine gg_st (go_iald sM_27 h55 d_X12_readRule_318 rfl) ?_
      refine gg_gd (fun h56 => ?_)
      refine gg_st (go_iast sM_24 h56 d_X12_readRule_319 rfl) ?_
      refine gg_som (fun s57 => ?_)
      refine gg_st (go_iconst d_X12_readRule_320 ci_0 rfl) ?_
      refine gg_st (go_istore 7 d_X12_readRule_321 (by decide) (L' := [some (.ref (0)), none, none, none, none, some (.int c5), some (.int v52), some (.int (0 : Int32))]) rfl rfl) ?_
      refine gg_bind 383 (fun (t68 : St) => [some (.ref (0)), none, none, none, none, some (.int c5), some (.int v52), none]) (fun (t68 : St) => []) (fun (t68 : St) => t68) (g_f_X12_readRule_L323 l w F c5 v52 F (0 : Int32) s57) (fun t68 => ?_)
      refine gg_st (go_iinc 6 d_X12_readRule_383 rfl (v := v52 + (1 : Int32)) (by rw [ci_1]) (by decide) (L' := [some (.ref (0)), none, none, none, none, some (.int c5), some (.int (v52 + (1 : Int32))), none]) rfl rfl) ?_
      refine gg_st (go_goto (pc' := 291) d_X12_readRule_386 (by decide)) ?_
      exact ih (v52 + (1 : Int32)) t68
    · refine gg_st (go_fg [some (.ref (0)), none, none, none, none, some (.int c5), none, none] ⟨rfl, ⟨rfl, trivial⟩⟩) ?_
      exact gg_end rfl
set_option maxRecDepth 20000 in
theorem g_f_X12_readRule_L401 (l : Launch) (w : Wo) (F : Nat) (c5 : Int32) (c6 : Int32) : ∀ (n : Nat) (v72 : Int32) (g : St), GG l w shM m_X12_readRule 6 401 [some (.ref (0)), none, none, none, none, some (.int c5), some (.int c6), some (.int v72)] [] g (f_X12_readRule_L401 F c5 c6 n v72 g) (fun (t : St) => .inl (468, [some (.ref (0)), none, none, none, none, some (.int c5), some (.int c6), none], [], t)) := by
  intro n
  induction n with
  | zero =>
    intro v72 g
    exact gg_none
  | succ n ih =>
    intro v72 g
    rw [f_X12_readRule_L401]
    refine gg_st (go_iload 7 d_X12_readRule_401 rfl rfl) ?_
    refine gg_st (go_aload_n 0 d_X12_readRule_403 rfl rfl rfl) ?_
    refine gg_st (go_getR (j := 38) cf12 sM_0 rfl (by decide) fl_X12_71 d_X12_readRule_404 rfl) ?_
    refine gg_st (go_aload_n 0 d_X12_readRule_407 rfl rfl rfl) ?_
    refine gg_st (go_getR (j := 57) cf12 sM_0 rfl (by decide) fl_X12_113 d_X12_readRule_408 rfl) ?_
    refine gg_st (go_iload 6 d_X12_readRule_411 rfl rfl) ?_
    refine gg_gd (fun h73 => ?_)
    refine gg_st (go_iald sM_32 h73 d_X12_readRule_413 rfl) ?_
    refine gg_gd (fun h74 => ?_)
    refine gg_st (go_iald sM_18 h74 d_X12_readRule_414 rfl) ?_
    refine gg_br (br_icmp_ge (tgt := 468) (pc' := 418) d_X12_readRule_415 (by decide) rfl) (fun h76 => ?_) (fun h76 => ?_)
    · refine gg_st (go_aload_n 0 d_X12_readRule_418 rfl rfl rfl) ?_
      refine gg_st (go_getR (j := 46) cf12 sM_0 rfl (by decide) fl_X12_92 d_X12_readRule_419 rfl) ?_
      refine gg_st (go_bipush d_X12_readRule_422 cb_70 rfl) ?_
      refine gg_st (go_iload 5 d_X12_readRule_424 rfl rfl) ?_
      refine gg_st (go_imul d_X12_readRule_426 rfl) ?_
      refine gg_st (go_bipush d_X12_readRule_427 cb_60 rfl) ?_
      refine gg_st (go_iadd d_X12_readRule_429 rfl) ?_
      refine gg_st (go_iconst d_X12_readRule_430 ci_5 rfl) ?_
      refine gg_st (go_iload 6 d_X12_readRule_431 rfl rfl) ?_
      refine gg_st (go_imul d_X12_readRule_433 rfl) ?_
      refine gg_st (go_iadd d_X12_readRule_434 rfl) ?_
      refine gg_st (go_iload 7 d_X12_readRule_435 rfl rfl) ?_
      refine gg_st (go_iadd d_X12_readRule_437 rfl) ?_
      refine gg_st (go_aload_n 0 d_X12_readRule_438 rfl rfl rfl) ?_
      refine gg_st (go_aload_n 0 d_X12_readRule_439 rfl rfl rfl) ?_
      refine gg_st (go_getR (j := 53) cf12 sM_0 rfl (by decide) fl_X12_104 d_X12_readRule_440 rfl) ?_
      refine gg_st (go_sipush d_X12_readRule_443 cs_1200 rfl) ?_
      refine gg_st (go_iconst d_X12_readRule_446 ci_5 rfl) ?_
      refine gg_st (go_iload 6 d_X12_readRule_447 rfl rfl) ?_
      refine gg_st (go_imul d_X12_readRule_449 rfl) ?_
      refine gg_st (go_iadd d_X12_readRule_450 rfl) ?_
      refine gg_st (go_iload 7 d_X12_readRule_451 rfl rfl) ?_
      refine gg_st (go_iadd d_X12_readRule_453 rfl) ?_
      refine gg_gd (fun h77 => ?_)
      refine gg_st (go_iald sM_29 h77 d_X12_readRule_454 rfl) ?_
      refine gv_IS (k_X12_follow l w F (g.1 (29) (ix (((1200 : Int32) + ((5 : Int32) * c6)) + v72))) g) cv_X12_284 sM_0 (Nat.le_of_ble_eq_true rfl) rfl rfl (Nat.le_of_ble_eq_true rfl) d_X12_readRule_455 rfl (fun x78 => ?_)
      refine gs_I (k_X12_told l w x78.1 x78.2) cs_X12_317 (Nat.le_of_ble_eq_true rfl) rfl rfl (Nat.le_of_ble_eq_true rfl) d_X12_readRule_458 rfl (fun x79 => ?_)
      refine gg_gd (fun h80 => ?_)
      refine gg_st (go_iast sM_25 h80 d_X12_readRule_461 rfl) ?_
      refine gg_som (fun s81 => ?_)
      refine gg_st (go_iinc 7 d_X12_readRule_462 rfl (v := v72 + (1 : Int32)) (by rw [ci_1]) (by decide) (L' := [some (.ref (0)), none, none, none, none, some (.int c5), some (.int c6), some (.int (v72 + (1 : Int32)))]) rfl rfl) ?_
      refine gg_st (go_goto (pc' := 401) d_X12_readRule_465 (by decide)) ?_
      exact ih (v72 + (1 : Int32)) s81
    · refine gg_st (go_fg [some (.ref (0)), none, none, none, none, some (.int c5), some (.int c6), none] ⟨rfl, ⟨rfl, ⟨rfl, trivial⟩⟩⟩) ?_
      exact gg_end rfl
set_option maxRecDepth 20000 in
theorem g_f_X12_readRule_L392 (l : Launch) (w : Wo) (F : Nat) (c5 : Int32) : ∀ (n : Nat) (v70 : Int32) (g : St), GG l w shM m_X12_readRule 6 392 [some (.ref (0)), none, none, none, none, some (.int c5), some (.int v70), none] [] g (f_X12_readRule_L392 F c5 n v70 g) (fun (t : St) => .inl (474, [some (.ref (0)), none, none, none, none, none, none, none], [], t)) := by
  intro n
  induction n with
  | zero =>
    intro v70 g
    exact gg_none
  | succ n ih =>
    intro v70 g
    rw [f_X12_readRule_L392]
    refine gg_st (go_iload 6 d_X12_readRule_392 rfl rfl) ?_
    refine gg_st (go_iconst d_X12_readRule_394 ci_2 rfl) ?_
    refine gg_br (br_icmp_ge (tgt := 474) (pc' := 398) d_X12_readRule_395 (by decide) rfl) (fun h71 => ?_) (fun h71 => ?_)
    · refine gg_st (go_iconst d_X12_readRule_398 ci_1 rfl) ?_
      refine gg_st (go_istore 7 d_X12_readRule_399 (by decide) (L' := [some (.ref (0)), none, none, none, none, some (.int c5), some (.int v70), some (.int (1 : Int32))]) rfl rfl) ?_
      refine gg_bind 468 (fun (t82 : St) => [some (.ref (0)), none, none, none, none, some (.int c5), some (.int v70), none]) (fun (t82 : St) => []) (fun (t82 : St) => t82) (g_f_X12_readRule_L401 l w F c5 v70 F (1 : Int32) g) (fun t82 => ?_)
      refine gg_st (go_iinc 6 d_X12_readRule_468 rfl (v := v70 + (1 : Int32)) (by rw [ci_1]) (by decide) (L' := [some (.ref (0)), none, none, none, none, some (.int c5), some (.int (v70 + (1 : Int32))), none]) rfl rfl) ?_
      refine gg_st (go_goto (pc' := 392) d_X12_readRule_471 (by decide)) ?_
      exact ih (v70 + (1 : Int32)) t82
    · refine gg_st (go_fg [some (.ref (0)), none, none, none, none, none, none, none] ⟨rfl, trivial⟩) ?_
      exact gg_end rfl
set_option maxRecDepth 20000 in
theorem k_X12_readRule (l : Launch) (w : Wo) (F : Nat) (σ : St) : K l w shM m_X12_readRule 6 [.ref (0)] σ (f_X12_readRule F σ) (rIS) := by
  refine k_of (L := [some (.ref (0)), none, none, none, none, none, none, none]) (plainFor_of_name (by decide +kernel)) 7 rfl (Nat.le_of_ble_eq_true rfl) ?_
  unfold f_X12_readRule
  refine gg_st (go_aload_n 0 d_X12_readRule_0 rfl rfl rfl) ?_
  refine gg_st (go_getI (j := 41) cf12 sM_0 rfl (by decide) fl_X12_296 d_X12_readRule_1 rfl) ?_
  refine gg_st (go_bipush d_X12_readRule_4 cb_60 rfl) ?_
  refine gg_br (br_icmp_ne (tgt := 19) (pc' := 9) d_X12_readRule_6 (by decide) rfl) (fun h1 => ?_) (fun h1 => ?_)
  · refine gg_st (go_aload_n 0 d_X12_readRule_9 rfl rfl rfl) ?_
    refine gg_st (go_iconst d_X12_readRule_10 ci_4 rfl) ?_
    refine gg_st (go_aload_n 0 d_X12_readRule_11 rfl rfl rfl) ?_
    refine gg_st (go_getI (j := 30) cf12 sM_0 rfl (by decide) fl_X12_202 d_X12_readRule_12 rfl) ?_
    refine gv_IS (k_X12_fail l w (4 : Int32) (σ.1 (0) 30) σ) cv_X12_234 sM_0 (Nat.le_of_ble_eq_true rfl) rfl rfl (Nat.le_of_ble_eq_true rfl) d_X12_readRule_15 rfl (fun x2 => ?_)
    refine gg_gd (fun h3 => ?_)
    exact gg_zret h3 rfl d_X12_readRule_18 rfl
  · refine gg_st (go_aload_n 0 d_X12_readRule_19 rfl rfl rfl) ?_
    refine gg_st (go_bipush d_X12_readRule_20 cb_12 rfl) ?_
    refine gv_V (k_X12_beginSheet l w (12 : Int32) σ) cv_X12_299 sM_0 (Nat.le_of_ble_eq_true rfl) rfl rfl (Nat.le_of_ble_eq_true rfl) d_X12_readRule_22 rfl (fun s4 => ?_)
    refine gg_st (go_aload_n 0 d_X12_readRule_25 rfl rfl rfl) ?_
    refine gv_V (k_X12_take l w F  s4) cv_X12_245 sM_0 (Nat.le_of_ble_eq_true rfl) rfl rfl (Nat.le_of_ble_eq_true rfl) d_X12_readRule_26 rfl (fun s5 => ?_)
    refine gg_st (go_aload_n 0 d_X12_readRule_29 rfl rfl rfl) ?_
    refine gg_st (go_iconst d_X12_readRule_30 ci_0 rfl) ?_
    refine gv_IS (k_X12_readSide l w F (0 : Int32) s5) cv_X12_302 sM_0 (Nat.le_of_ble_eq_true rfl) rfl rfl (Nat.le_of_ble_eq_true rfl) d_X12_readRule_31 rfl (fun x6 => ?_)
    refine gg_br (br_if_ne (tgt := 39) (pc' := 37) d_X12_readRule_34 (by decide) rfl) (fun h7 => ?_) (fun h7 => ?_)
    · refine gg_st (go_iconst d_X12_readRule_37 ci_0 rfl) ?_
      exact gg_zret (Or.inl rfl) rfl d_X12_readRule_38 rfl
    · refine gg_st (go_aload_n 0 d_X12_readRule_39 rfl rfl rfl) ?_
      refine gg_st (go_getI (j := 29) cf12 sM_0 rfl (by decide) fl_X12_205 d_X12_readRule_40 rfl) ?_
      refine gg_st (go_iconst d_X12_readRule_43 ci_4 rfl) ?_
      refine gg_br (br_icmp_eq (tgt := 52) (pc' := 47) d_X12_readRule_44 (by decide) rfl) (fun h8 => ?_) (fun h8 => ?_)
      · refine gg_st (go_aload_n 0 d_X12_readRule_52 rfl rfl rfl) ?_
        refine gv_V (k_X12_take l w F  x6.2) cv_X12_245 sM_0 (Nat.le_of_ble_eq_true rfl) rfl rfl (Nat.le_of_ble_eq_true rfl) d_X12_readRule_53 rfl (fun s9 => ?_)
        refine gg_st (go_aload_n 0 d_X12_readRule_56 rfl rfl rfl) ?_
        refine gg_st (go_iconst d_X12_readRule_57 ci_1 rfl) ?_
        refine gv_IS (k_X12_readSide l w F (1 : Int32) s9) cv_X12_302 sM_0 (Nat.le_of_ble_eq_true rfl) rfl rfl (Nat.le_of_ble_eq_true rfl) d_X12_readRule_58 rfl (fun x10 => ?_)
        refine gg_br (br_if_ne (tgt := 66) (pc' := 64) d_X12_readRule_61 (by decide) rfl) (fun h11 => ?_) (fun h11 => ?_)
        · refine gg_st (go_iconst d_X12_readRule_64 ci_0 rfl) ?_
          exact gg_zret (Or.inl rfl) rfl d_X12_readRule_65 rfl
        · refine gg_st (go_aload_n 0 d_X12_readRule_66 rfl rfl rfl) ?_
          refine gg_st (go_bipush d_X12_readRule_67 cb_58 rfl) ?_
          refine gv_I (k_X12_isSign l w (58 : Int32) x10.2) cv_X12_238 sM_0 (Nat.le_of_ble_eq_true rfl) rfl rfl (Nat.le_of_ble_eq_true rfl) d_X12_readRule_69 rfl (fun x12 => ?_)
          refine gg_jp 88 (fun (t13 : St) => [some (.ref (0)), none, none, none, none, none, none, none]) (fun (t13 : St) => []) (fun (t13 : St) => t13) (fun t13 => ?_) (fun jp14 hjp14 => ?_)
          · refine gg_st (go_aload_n 0 d_X12_readRule_88 rfl rfl rfl) ?_
            refine gg_st (go_bipush d_X12_readRule_89 cb_59 rfl) ?_
            refine gv_I (k_X12_isSign l w (59 : Int32) t13) cv_X12_238 sM_0 (Nat.le_of_ble_eq_true rfl) rfl rfl (Nat.le_of_ble_eq_true rfl) d_X12_readRule_91 rfl (fun x15 => ?_)
            refine gg_br (br_if_ne (tgt := 102) (pc' := 97) d_X12_readRule_94 (by decide) rfl) (fun h16 => ?_) (fun h16 => ?_)
            · refine gg_st (go_aload_n 0 d_X12_readRule_97 rfl rfl rfl) ?_
              refine gv_IS (k_X12_wrong l w  t13) cv_X12_241 sM_0 (Nat.le_of_ble_eq_true rfl) rfl rfl (Nat.le_of_ble_eq_true rfl) d_X12_readRule_98 rfl (fun x17 => ?_)
              refine gg_gd (fun h18 => ?_)
              exact gg_zret h18 rfl d_X12_readRule_101 rfl
            · refine gg_st (go_iconst d_X12_readRule_102 ci_1 rfl) ?_
              refine gg_st (go_istore_n 1 d_X12_readRule_103 rfl (by decide) (L' := [some (.ref (0)), some (.int (1 : Int32)), none, none, none, none, none, none]) rfl rfl) ?_
              refine gg_st (go_iconst d_X12_readRule_104 ci_0 rfl) ?_
              refine gg_st (go_istore_n 2 d_X12_readRule_105 rfl (by decide) (L' := [some (.ref (0)), some (.int (1 : Int32)), some (.int (0 : Int32)), none, none, none, none, none]) rfl rfl) ?_
              refine gg_bind 140 (fun (t30 : Int32) => [some (.ref (0)), some (.int t30), none, none, none, none, none, none]) (fun (t30 : Int32) => []) (fun (t30 : Int32) => t13) (g_f_X12_readRule_L106 l w F t13 F (1 : Int32) (0 : Int32)) (fun t30 => ?_)
              refine gg_st (go_aload_n 0 d_X12_readRule_140 rfl rfl rfl) ?_
              refine gg_st (go_getR (j := 57) cf12 sM_0 rfl (by decide) fl_X12_113 d_X12_readRule_141 rfl) ?_
              refine gg_st (go_iconst d_X12_readRule_144 ci_0 rfl) ?_
              refine gg_st (go_iald sM_32 (by decide) d_X12_readRule_145 rfl) ?_
              refine gg_nm (fun _ => [some (.ref (0)), some (.int t30), none, none, none, none, none, none]) (fun (x31 : Int32) => [.int x31]) (fun x31 => ?_)
              refine gg_st (go_istore_n 2 d_X12_readRule_146 rfl (by decide) (L' := [some (.ref (0)), some (.int t30), some (.int x31), none, none, none, none, none]) rfl rfl) ?_
              refine gg_st (go_aload_n 0 d_X12_readRule_147 rfl rfl rfl) ?_
              refine gg_st (go_getR (j := 57) cf12 sM_0 rfl (by decide) fl_X12_113 d_X12_readRule_148 rfl) ?_
              refine gg_st (go_iconst d_X12_readRule_151 ci_1 rfl) ?_
              refine gg_st (go_iald sM_32 (by decide) d_X12_readRule_152 rfl) ?_
              refine gg_nm (fun _ => [some (.ref (0)), some (.int t30), some (.int x31), none, none, none, none, none]) (fun (x32 : Int32) => [.int x32]) (fun x32 => ?_)
              refine gg_st (go_istore_n 3 d_X12_readRule_153 rfl (by decide) (L' := [some (.ref (0)), some (.int t30), some (.int x31), some (.int x32), none, none, none, none]) rfl rfl) ?_
              refine gg_st (go_aload_n 0 d_X12_readRule_154 rfl rfl rfl) ?_
              refine gg_st (go_getR (j := 42) cf12 sM_0 rfl (by decide) fl_X12_80 d_X12_readRule_155 rfl) ?_
              refine gg_st (go_bipush d_X12_readRule_158 cb_16 rfl) ?_
              refine gg_st (go_iload_n 2 d_X12_readRule_160 rfl rfl rfl) ?_
              refine gg_st (go_imul d_X12_readRule_161 rfl) ?_
              refine gg_st (go_iload_n 3 d_X12_readRule_162 rfl rfl rfl) ?_
              refine gg_st (go_iadd d_X12_readRule_163 rfl) ?_
              refine gg_gd (fun h33 => ?_)
              refine gg_st (go_iald sM_21 h33 d_X12_readRule_164 rfl) ?_
              refine gg_two (c := ((t13.1 (21) (ix (((16 : Int32) * x31) + x32))) < 0) ∧ (¬ (t30 = 0))) (pA := 183) (pB := 172) (LL := [some (.ref (0)), some (.int t30), some (.int x31), some (.int x32), none, none, none, none]) (ss := []) ?_ ?_ (fun hA91 hB92 => ?_)
              · refine gg_st (go_aload_n 0 d_X12_readRule_183 rfl rfl rfl) ?_
                refine gv_IS (k_X12_fitAll l w F  t13) cv_X12_308 sM_0 (Nat.le_of_ble_eq_true rfl) rfl rfl (Nat.le_of_ble_eq_true rfl) d_X12_readRule_184 rfl (fun x34 => ?_)
                refine gg_st (go_istore 4 d_X12_readRule_187 (by decide) (L' := [some (.ref (0)), some (.int t30), some (.int x31), some (.int x32), some (.int x34.1), none, none, none]) rfl rfl) ?_
                refine gg_st (go_aload_n 0 d_X12_readRule_189 rfl rfl rfl) ?_
                refine gv_IS (k_X12_fitSides l w F  x34.2) cv_X12_311 sM_0 (Nat.le_of_ble_eq_true rfl) rfl rfl (Nat.le_of_ble_eq_true rfl) d_X12_readRule_190 rfl (fun x35 => ?_)
                refine gg_two (c := (x35.1 = 0) ∨ (x34.1 = 0)) (pA := 201) (pB := 212) (LL := [some (.ref (0)), some (.int t30), some (.int x31), some (.int x32), some (.int x34.1), none, none, none]) (ss := []) ?_ ?_ (fun hA85 hB86 => ?_)
                · refine gg_st (go_aload_n 0 d_X12_readRule_201 rfl rfl rfl) ?_
                  refine gg_st (go_bipush d_X12_readRule_202 cb_7 rfl) ?_
                  refine gg_st (go_aload_n 0 d_X12_readRule_204 rfl rfl rfl) ?_
                  refine gg_st (go_getI (j := 30) cf12 sM_0 rfl (by decide) fl_X12_202 d_X12_readRule_205 rfl) ?_
                  refine gv_IS (k_X12_fail l w (7 : Int32) (x35.2.1 (0) 30) x35.2) cv_X12_234 sM_0 (Nat.le_of_ble_eq_true rfl) rfl rfl (Nat.le_of_ble_eq_true rfl) d_X12_readRule_208 rfl (fun x36 => ?_)
                  refine gg_gd (fun h37 => ?_)
                  exact gg_zret h37 rfl d_X12_readRule_211 rfl
                · refine gg_st (go_aload_n 0 d_X12_readRule_212 rfl rfl rfl) ?_
                  refine gg_st (go_getI (j := 41) cf12 sM_0 rfl (by decide) fl_X12_296 d_X12_readRule_213 rfl) ?_
                  refine gg_nm (fun _ => [some (.ref (0)), some (.int t30), some (.int x31), some (.int x32), some (.int x34.1), none, none, none]) (fun (x38 : Int32) => [.int x38]) (fun x38 => ?_)
                  refine gg_st (go_istore 5 d_X12_readRule_216 (by decide) (L' := [some (.ref (0)), some (.int t30), some (.int x31), some (.int x32), some (.int x34.1), some (.int x38), none, none]) rfl rfl) ?_
                  refine gg_st (go_aload_n 0 d_X12_readRule_218 rfl rfl rfl) ?_
                  refine gg_st (go_getR (j := 47) cf12 sM_0 rfl (by decide) fl_X12_95 d_X12_readRule_219 rfl) ?_
                  refine gg_st (go_iload 5 d_X12_readRule_222 rfl rfl) ?_
                  refine gg_st (go_aload_n 0 d_X12_readRule_224 rfl rfl rfl) ?_
                  refine gv_IS (k_X12_sheetRings l w F  x35.2) cv_X12_314 sM_0 (Nat.le_of_ble_eq_true rfl) rfl rfl (Nat.le_of_ble_eq_true rfl) d_X12_readRule_225 rfl (fun x39 => ?_)
                  refine gg_gd (fun h40 => ?_)
                  refine gg_st (go_iast sM_26 h40 d_X12_readRule_228 rfl) ?_
                  refine gg_som (fun s41 => ?_)
                  refine gg_st (go_aload_n 0 d_X12_readRule_229 rfl rfl rfl) ?_
                  refine gg_st (go_getR (j := 42) cf12 sM_0 rfl (by decide) fl_X12_80 d_X12_readRule_230 rfl) ?_
                  refine gg_st (go_bipush d_X12_readRule_233 cb_16 rfl) ?_
                  refine gg_st (go_iload_n 2 d_X12_readRule_235 rfl rfl rfl) ?_
                  refine gg_st (go_imul d_X12_readRule_236 rfl) ?_
                  refine gg_st (go_iload_n 3 d_X12_readRule_237 rfl rfl rfl) ?_
                  refine gg_st (go_iadd d_X12_readRule_238 rfl) ?_
                  refine gg_st (go_iload 5 d_X12_readRule_239 rfl rfl) ?_
                  refine gg_gd (fun h42 => ?_)
                  refine gg_st (go_iast sM_21 h42 d_X12_readRule_241 rfl) ?_
                  refine gg_som (fun s43 => ?_)
                  refine gg_st (go_aload_n 0 d_X12_readRule_242 rfl rfl rfl) ?_
                  refine gg_st (go_getR (j := 42) cf12 sM_0 rfl (by decide) fl_X12_80 d_X12_readRule_243 rfl) ?_
                  refine gg_st (go_bipush d_X12_readRule_246 cb_16 rfl) ?_
                  refine gg_st (go_iload_n 3 d_X12_readRule_248 rfl rfl rfl) ?_
                  refine gg_st (go_imul d_X12_readRule_249 rfl) ?_
                  refine gg_st (go_iload_n 2 d_X12_readRule_250 rfl rfl rfl) ?_
                  refine gg_st (go_iadd d_X12_readRule_251 rfl) ?_
                  refine gg_st (go_iload 5 d_X12_readRule_252 rfl rfl) ?_
                  refine gg_gd (fun h44 => ?_)
                  refine gg_st (go_iast sM_21 h44 d_X12_readRule_254 rfl) ?_
                  refine gg_som (fun s45 => ?_)
                  refine gg_st (go_aload_n 0 d_X12_readRule_255 rfl rfl rfl) ?_
                  refine gg_st (go_getR (j := 43) cf12 sM_0 rfl (by decide) fl_X12_83 d_X12_readRule_256 rfl) ?_
                  refine gg_st (go_iconst d_X12_readRule_259 ci_2 rfl) ?_
                  refine gg_st (go_iload 5 d_X12_readRule_260 rfl rfl) ?_
                  refine gg_st (go_imul d_X12_readRule_262 rfl) ?_
                  refine gg_st (go_iload_n 2 d_X12_readRule_263 rfl rfl rfl) ?_
                  refine gg_gd (fun h46 => ?_)
                  refine gg_st (go_iast sM_22 h46 d_X12_readRule_264 rfl) ?_
                  refine gg_som (fun s47 => ?_)
                  refine gg_st (go_aload_n 0 d_X12_readRule_265 rfl rfl rfl) ?_
                  refine gg_st (go_getR (j := 43) cf12 sM_0 rfl (by decide) fl_X12_83 d_X12_readRule_266 rfl) ?_
                  refine gg_st (go_iconst d_X12_readRule_269 ci_2 rfl) ?_
                  refine gg_st (go_iload 5 d_X12_readRule_270 rfl rfl) ?_
                  refine gg_st (go_imul d_X12_readRule_272 rfl) ?_
                  refine gg_st (go_iconst d_X12_readRule_273 ci_1 rfl) ?_
                  refine gg_st (go_iadd d_X12_readRule_274 rfl) ?_
                  refine gg_st (go_iload_n 3 d_X12_readRule_275 rfl rfl rfl) ?_
                  refine gg_gd (fun h48 => ?_)
                  refine gg_st (go_iast sM_22 h48 d_X12_readRule_276 rfl) ?_
                  refine gg_som (fun s49 => ?_)
                  refine gg_st (go_aload_n 0 d_X12_readRule_277 rfl rfl rfl) ?_
                  refine gg_st (go_getR (j := 44) cf12 sM_0 rfl (by decide) fl_X12_86 d_X12_readRule_278 rfl) ?_
                  refine gg_st (go_iload 5 d_X12_readRule_281 rfl rfl) ?_
                  refine gg_st (go_aload_n 0 d_X12_readRule_283 rfl rfl rfl) ?_
                  refine gg_st (go_getI (j := 49) cf12 sM_0 rfl (by decide) fl_X12_261 d_X12_readRule_284 rfl) ?_
                  refine gg_gd (fun h50 => ?_)
                  refine gg_st (go_iast sM_23 h50 d_X12_readRule_287 rfl) ?_
                  refine gg_som (fun s51 => ?_)
                  refine gg_st (go_iconst d_X12_readRule_288 ci_0 rfl) ?_
                  refine gg_st (go_istore 6 d_X12_readRule_289 (by decide) (L' := [some (.ref (0)), some (.int t30), some (.int x31), some (.int x32), some (.int x34.1), some (.int x38), some (.int (0 : Int32)), none]) rfl rfl) ?_
                  refine gg_st (go_fg [some (.ref (0)), none, none, none, none, some (.int x38), some (.int (0 : Int32)), none] ⟨rfl, ⟨rfl, ⟨rfl, trivial⟩⟩⟩) ?_
                  refine gg_bind 389 (fun (t69 : St) => [some (.ref (0)), none, none, none, none, some (.int x38), none, none]) (fun (t69 : St) => []) (fun (t69 : St) => t69) (g_f_X12_readRule_L291 l w F x38 F (0 : Int32) s51) (fun t69 => ?_)
                  refine gg_st (go_iconst d_X12_readRule_389 ci_0 rfl) ?_
                  refine gg_st (go_istore 6 d_X12_readRule_390 (by decide) (L' := [some (.ref (0)), none, none, none, none, some (.int x38), some (.int (0 : Int32)), none]) rfl rfl) ?_
                  refine gg_bind 474 (fun (t83 : St) => [some (.ref (0)), none, none, none, none, none, none, none]) (fun (t83 : St) => []) (fun (t83 : St) => t83) (g_f_X12_readRule_L392 l w F x38 F (0 : Int32) t69) (fun t83 => ?_)
                  refine gg_st (go_aload_n 0 d_X12_readRule_474 rfl rfl rfl) ?_
                  refine gg_st (go_dup d_X12_readRule_475 rfl rfl) ?_
                  refine gg_st (go_getI (j := 41) cf12 sM_0 rfl (by decide) fl_X12_296 d_X12_readRule_476 rfl) ?_
                  refine gg_st (go_iconst d_X12_readRule_479 ci_1 rfl) ?_
                  refine gg_st (go_iadd d_X12_readRule_480 rfl) ?_
                  refine gg_st (go_putI (j := 41) cf12 sM_0 rfl (by decide) rfl rfl fl_X12_296 d_X12_readRule_481 rfl) ?_
                  refine gg_som (fun s84 => ?_)
                  refine gg_st (go_iconst d_X12_readRule_484 ci_1 rfl) ?_
                  exact gg_zret (Or.inr rfl) rfl d_X12_readRule_485 rfl
                refine gg_brs (br_if_eq (tgt := 201) (pc' := 196) d_X12_readRule_193 (by decide) rfl) (fun h87 => ?_) (fun h87 => ?_)
                · exact gg_eq (if_pos (Or.inl h87)) hA85
                · refine gg_st (go_iload 4 d_X12_readRule_196 rfl rfl) ?_
                  refine gg_brs (br_if_ne (tgt := 212) (pc' := 201) d_X12_readRule_198 (by decide) rfl) (fun h88 => ?_) (fun h88 => ?_)
                  · exact gg_eq (if_pos (Or.inr h88)) hA85
                  · exact gg_eq (if_neg (fun z => z.elim h87 h88)) hB86
              · refine gg_st (go_aload_n 0 d_X12_readRule_172 rfl rfl rfl) ?_
                refine gg_st (go_bipush d_X12_readRule_173 cb_6 rfl) ?_
                refine gg_st (go_aload_n 0 d_X12_readRule_175 rfl rfl rfl) ?_
                refine gg_st (go_getI (j := 30) cf12 sM_0 rfl (by decide) fl_X12_202 d_X12_readRule_176 rfl) ?_
                refine gv_IS (k_X12_fail l w (6 : Int32) (t13.1 (0) 30) t13) cv_X12_234 sM_0 (Nat.le_of_ble_eq_true rfl) rfl rfl (Nat.le_of_ble_eq_true rfl) d_X12_readRule_179 rfl (fun x89 => ?_)
                refine gg_gd (fun h90 => ?_)
                exact gg_zret h90 rfl d_X12_readRule_182 rfl
              refine gg_brs (br_if_ge (tgt := 172) (pc' := 168) d_X12_readRule_165 (by decide) rfl) (fun h93 => ?_) (fun h93 => ?_)
              · refine gg_st (go_iload_n 1 d_X12_readRule_168 rfl rfl rfl) ?_
                refine gg_brs (br_if_ne (tgt := 183) (pc' := 172) d_X12_readRule_169 (by decide) rfl) (fun h94 => ?_) (fun h94 => ?_)
                · exact gg_eq (if_neg (fun z => (fun z => z h94) z.2)) hB92
                · exact gg_eq (if_pos ⟨h93, h94⟩) hA91
              · exact gg_eq (if_neg (fun z => h93 z.1)) hB92
          refine gg_br (br_if_eq (tgt := 88) (pc' := 75) d_X12_readRule_72 (by decide) rfl) (fun h95 => ?_) (fun h95 => ?_)
          · exact hjp14 x10.2
          · refine gg_st (go_aload_n 0 d_X12_readRule_75 rfl rfl rfl) ?_
            refine gv_V (k_X12_take l w F  x10.2) cv_X12_245 sM_0 (Nat.le_of_ble_eq_true rfl) rfl rfl (Nat.le_of_ble_eq_true rfl) d_X12_readRule_76 rfl (fun s96 => ?_)
            refine gg_st (go_aload_n 0 d_X12_readRule_79 rfl rfl rfl) ?_
            refine gv_IS (k_X12_readLinks l w F  s96) cv_X12_305 sM_0 (Nat.le_of_ble_eq_true rfl) rfl rfl (Nat.le_of_ble_eq_true rfl) d_X12_readRule_80 rfl (fun x97 => ?_)
            refine gg_br (br_if_ne (tgt := 88) (pc' := 86) d_X12_readRule_83 (by decide) rfl) (fun h98 => ?_) (fun h98 => ?_)
            · refine gg_st (go_iconst d_X12_readRule_86 ci_0 rfl) ?_
              exact gg_zret (Or.inl rfl) rfl d_X12_readRule_87 rfl
            · exact hjp14 x97.2
      · refine gg_st (go_aload_n 0 d_X12_readRule_47 rfl rfl rfl) ?_
        refine gv_IS (k_X12_wrong l w  x6.2) cv_X12_241 sM_0 (Nat.le_of_ble_eq_true rfl) rfl rfl (Nat.le_of_ble_eq_true rfl) d_X12_readRule_48 rfl (fun x99 => ?_)
        refine gg_gd (fun h100 => ?_)
        exact gg_zret h100 rfl d_X12_readRule_51 rfl
def f_X12_readBook_L4 (F : Nat) : Nat → St → Option (Int32 × St)
  | 0, _ => none
  | n + 1, g =>
    if (g.1 (0) 29) = (5 : Int32) then (
      some ((1 : Int32), g))
    else (
      Option.bind (
        if (g.1 (0) 29) = (1 : Int32) then (
          some (1 : Int32))
        else (
          some (0 : Int32))) fun t3 =>
      Option.bind (
        if (t3 = 0) ∨ (¬ ((lg_cmp (g.2 (0) 32) (1802071652 : Int64)) = 0)) then (
          if (t3 = 0) ∨ (¬ ((lg_cmp (g.2 (0) 32) (1920298085 : Int64)) = 0)) then (
            if (t3 = 0) ∨ (¬ ((lg_cmp (g.2 (0) 32) (7234932 : Int64)) = 0)) then (
              Option.bind (f_X12_wrong g) fun x6 =>
              some (x6.1, x6.2))
            else (
              Option.bind (f_X12_readNet F g) fun x7 =>
              some (x7.1, x7.2)))
          else (
            Option.bind (f_X12_readRule F g) fun x12 =>
            some (x12.1, x12.2)))
        else (
          Option.bind (f_X12_readKind F g) fun x17 =>
          some (x17.1, x17.2))) fun t5 =>
      if t5.1 = 0 then (
        some ((0 : Int32), t5.2))
      else (
        Option.bind (f_X12_take F t5.2) fun s23 =>
        f_X12_readBook_L4 F n s23))
def f_X12_readBook (F : Nat) (σ : St) : Option (Int32 × St) :=
  Option.bind (f_X12_take F σ) fun s1 =>
  f_X12_readBook_L4 F F s1
set_option maxRecDepth 20000 in
theorem g_f_X12_readBook_L4 (l : Launch) (w : Wo) (F : Nat) : ∀ (n : Nat) (g : St), GG l w shM m_X12_readBook 7 4 [some (.ref (0)), none, none] [] g (f_X12_readBook_L4 F n g) (fun q => .inr ((rIS) q)) := by
  intro n
  induction n with
  | zero =>
    intro g
    exact gg_none
  | succ n ih =>
    intro g
    rw [f_X12_readBook_L4]
    refine gg_st (go_aload_n 0 d_X12_readBook_4 rfl rfl rfl) ?_
    refine gg_st (go_getI (j := 29) cf12 sM_0 rfl (by decide) fl_X12_205 d_X12_readBook_5 rfl) ?_
    refine gg_st (go_iconst d_X12_readBook_8 ci_5 rfl) ?_
    refine gg_br (br_icmp_eq (tgt := 113) (pc' := 12) d_X12_readBook_9 (by decide) rfl) (fun h2 => ?_) (fun h2 => ?_)
    · refine gg_st (go_iconst d_X12_readBook_113 ci_1 rfl) ?_
      exact gg_zret (Or.inr rfl) rfl d_X12_readBook_114 rfl
    · refine gg_st (go_aload_n 0 d_X12_readBook_12 rfl rfl rfl) ?_
      refine gg_st (go_getI (j := 29) cf12 sM_0 rfl (by decide) fl_X12_205 d_X12_readBook_13 rfl) ?_
      refine gg_st (go_iconst d_X12_readBook_16 ci_1 rfl) ?_
      refine gg_bind 25 (fun (t3 : Int32) => [some (.ref (0)), none, none]) (fun (t3 : Int32) => [.int t3]) (fun (t3 : Int32) => g) ?_ (fun t3 => ?_)
      · refine gg_br (br_icmp_ne (tgt := 24) (pc' := 20) d_X12_readBook_17 (by decide) rfl) (fun h4 => ?_) (fun h4 => ?_)
        · refine gg_st (go_iconst d_X12_readBook_20 ci_1 rfl) ?_
          refine gg_st (go_goto (pc' := 25) d_X12_readBook_21 (by decide)) ?_
          exact gg_end rfl
        · refine gg_st (go_iconst d_X12_readBook_24 ci_0 rfl) ?_
          exact gg_end rfl
      · refine gg_st (go_istore_n 1 d_X12_readBook_25 rfl (by decide) (L' := [some (.ref (0)), some (.int t3), none]) rfl rfl) ?_
        refine gg_st (go_iload_n 1 d_X12_readBook_26 rfl rfl rfl) ?_
        refine gg_bind 100 (fun (t5 : Int32 × St) => [some (.ref (0)), none, some (.int t5.1)]) (fun (t5 : Int32 × St) => []) (fun (t5 : Int32 × St) => t5.2) ?_ (fun t5 => ?_)
        · refine gg_two (c := (t3 = 0) ∨ (¬ ((lg_cmp (g.2 (0) 32) (1802071652 : Int64)) = 0))) (pA := 49) (pB := 41) (LL := [some (.ref (0)), some (.int t3), none]) (ss := []) ?_ ?_ (fun hA18 hB19 => ?_)
          · refine gg_st (go_iload_n 1 d_X12_readBook_49 rfl rfl rfl) ?_
            refine gg_two (c := (t3 = 0) ∨ (¬ ((lg_cmp (g.2 (0) 32) (1920298085 : Int64)) = 0))) (pA := 72) (pB := 64) (LL := [some (.ref (0)), some (.int t3), none]) (ss := []) ?_ ?_ (fun hA13 hB14 => ?_)
            · refine gg_st (go_iload_n 1 d_X12_readBook_72 rfl rfl rfl) ?_
              refine gg_two (c := (t3 = 0) ∨ (¬ ((lg_cmp (g.2 (0) 32) (7234932 : Int64)) = 0))) (pA := 95) (pB := 87) (LL := [some (.ref (0)), some (.int t3), none]) (ss := []) ?_ ?_ (fun hA8 hB9 => ?_)
              · refine gg_st (go_aload_n 0 d_X12_readBook_95 rfl rfl rfl) ?_
                refine gv_IS (k_X12_wrong l w  g) cv_X12_241 sM_0 (Nat.le_of_ble_eq_true rfl) rfl rfl (Nat.le_of_ble_eq_true rfl) d_X12_readBook_96 rfl (fun x6 => ?_)
                refine gg_st (go_istore_n 2 d_X12_readBook_99 rfl (by decide) (L' := [some (.ref (0)), some (.int t3), some (.int x6.1)]) rfl rfl) ?_
                refine gg_st (go_fg [some (.ref (0)), none, some (.int x6.1)] ⟨rfl, ⟨rfl, trivial⟩⟩) ?_
                exact gg_end rfl
              · refine gg_st (go_aload_n 0 d_X12_readBook_87 rfl rfl rfl) ?_
                refine gv_IS (k_X12_readNet l w F  g) cv_X12_345 sM_0 (Nat.le_of_ble_eq_true rfl) rfl rfl (Nat.le_of_ble_eq_true rfl) d_X12_readBook_88 rfl (fun x7 => ?_)
                refine gg_st (go_istore_n 2 d_X12_readBook_91 rfl (by decide) (L' := [some (.ref (0)), some (.int t3), some (.int x7.1)]) rfl rfl) ?_
                refine gg_st (go_goto (pc' := 100) d_X12_readBook_92 (by decide)) ?_
                refine gg_st (go_fg [some (.ref (0)), none, some (.int x7.1)] ⟨rfl, ⟨rfl, trivial⟩⟩) ?_
                exact gg_end rfl
              refine gg_brs (br_if_eq (tgt := 95) (pc' := 76) d_X12_readBook_73 (by decide) rfl) (fun h10 => ?_) (fun h10 => ?_)
              · exact gg_eq (if_pos (Or.inl h10)) hA8
              · refine gg_st (go_aload_n 0 d_X12_readBook_76 rfl rfl rfl) ?_
                refine gg_st (go_getL (j := 32) cf12 sM_0 rfl (by decide) fl_X12_225 d_X12_readBook_77 rfl) ?_
                refine gg_st (go_ldc2 ll_X12_343 d_X12_readBook_80 rfl) ?_
                refine gg_st (go_lcmp d_X12_readBook_83 rfl) ?_
                refine gg_brs (br_if_ne (tgt := 95) (pc' := 87) d_X12_readBook_84 (by decide) rfl) (fun h11 => ?_) (fun h11 => ?_)
                · exact gg_eq (if_neg (fun z => z.elim h10 (fun z => z h11))) hB9
                · exact gg_eq (if_pos (Or.inr h11)) hA8
            · refine gg_st (go_aload_n 0 d_X12_readBook_64 rfl rfl rfl) ?_
              refine gv_IS (k_X12_readRule l w F  g) cv_X12_340 sM_0 (Nat.le_of_ble_eq_true rfl) rfl rfl (Nat.le_of_ble_eq_true rfl) d_X12_readBook_65 rfl (fun x12 => ?_)
              refine gg_st (go_istore_n 2 d_X12_readBook_68 rfl (by decide) (L' := [some (.ref (0)), some (.int t3), some (.int x12.1)]) rfl rfl) ?_
              refine gg_st (go_goto (pc' := 100) d_X12_readBook_69 (by decide)) ?_
              refine gg_st (go_fg [some (.ref (0)), none, some (.int x12.1)] ⟨rfl, ⟨rfl, trivial⟩⟩) ?_
              exact gg_end rfl
            refine gg_brs (br_if_eq (tgt := 72) (pc' := 53) d_X12_readBook_50 (by decide) rfl) (fun h15 => ?_) (fun h15 => ?_)
            · exact gg_eq (if_pos (Or.inl h15)) hA13
            · refine gg_st (go_aload_n 0 d_X12_readBook_53 rfl rfl rfl) ?_
              refine gg_st (go_getL (j := 32) cf12 sM_0 rfl (by decide) fl_X12_225 d_X12_readBook_54 rfl) ?_
              refine gg_st (go_ldc2 ll_X12_338 d_X12_readBook_57 rfl) ?_
              refine gg_st (go_lcmp d_X12_readBook_60 rfl) ?_
              refine gg_brs (br_if_ne (tgt := 72) (pc' := 64) d_X12_readBook_61 (by decide) rfl) (fun h16 => ?_) (fun h16 => ?_)
              · exact gg_eq (if_neg (fun z => z.elim h15 (fun z => z h16))) hB14
              · exact gg_eq (if_pos (Or.inr h16)) hA13
          · refine gg_st (go_aload_n 0 d_X12_readBook_41 rfl rfl rfl) ?_
            refine gv_IS (k_X12_readKind l w F  g) cv_X12_335 sM_0 (Nat.le_of_ble_eq_true rfl) rfl rfl (Nat.le_of_ble_eq_true rfl) d_X12_readBook_42 rfl (fun x17 => ?_)
            refine gg_st (go_istore_n 2 d_X12_readBook_45 rfl (by decide) (L' := [some (.ref (0)), some (.int t3), some (.int x17.1)]) rfl rfl) ?_
            refine gg_st (go_goto (pc' := 100) d_X12_readBook_46 (by decide)) ?_
            refine gg_st (go_fg [some (.ref (0)), none, some (.int x17.1)] ⟨rfl, ⟨rfl, trivial⟩⟩) ?_
            exact gg_end rfl
          refine gg_brs (br_if_eq (tgt := 49) (pc' := 30) d_X12_readBook_27 (by decide) rfl) (fun h20 => ?_) (fun h20 => ?_)
          · exact gg_eq (if_pos (Or.inl h20)) hA18
          · refine gg_st (go_aload_n 0 d_X12_readBook_30 rfl rfl rfl) ?_
            refine gg_st (go_getL (j := 32) cf12 sM_0 rfl (by decide) fl_X12_225 d_X12_readBook_31 rfl) ?_
            refine gg_st (go_ldc2 ll_X12_333 d_X12_readBook_34 rfl) ?_
            refine gg_st (go_lcmp d_X12_readBook_37 rfl) ?_
            refine gg_brs (br_if_ne (tgt := 49) (pc' := 41) d_X12_readBook_38 (by decide) rfl) (fun h21 => ?_) (fun h21 => ?_)
            · exact gg_eq (if_neg (fun z => z.elim h20 (fun z => z h21))) hB19
            · exact gg_eq (if_pos (Or.inr h21)) hA18
        · refine gg_st (go_iload_n 2 d_X12_readBook_100 rfl rfl rfl) ?_
          refine gg_br (br_if_ne (tgt := 106) (pc' := 104) d_X12_readBook_101 (by decide) rfl) (fun h22 => ?_) (fun h22 => ?_)
          · refine gg_st (go_iconst d_X12_readBook_104 ci_0 rfl) ?_
            exact gg_zret (Or.inl rfl) rfl d_X12_readBook_105 rfl
          · refine gg_st (go_aload_n 0 d_X12_readBook_106 rfl rfl rfl) ?_
            refine gv_V (k_X12_take l w F  t5.2) cv_X12_245 sM_0 (Nat.le_of_ble_eq_true rfl) rfl rfl (Nat.le_of_ble_eq_true rfl) d_X12_readBook_107 rfl (fun s23 => ?_)
            refine gg_st (go_goto (pc' := 4) d_X12_readBook_110 (by decide)) ?_
            refine gg_st (go_fg [some (.ref (0)), none, none] ⟨rfl, trivial⟩) ?_
            exact ih s23
set_option maxRecDepth 20000 in
theorem k_X12_readBook (l : Launch) (w : Wo) (F : Nat) (σ : St) : K l w shM m_X12_readBook 7 [.ref (0)] σ (f_X12_readBook F σ) (rIS) := by
  refine k_of (L := [some (.ref (0)), none, none]) (plainFor_of_name (by decide +kernel)) 2 rfl (Nat.le_of_ble_eq_true rfl) ?_
  unfold f_X12_readBook
  refine gg_st (go_aload_n 0 d_X12_readBook_0 rfl rfl rfl) ?_
  refine gv_V (k_X12_take l w F  σ) cv_X12_245 sM_0 (Nat.le_of_ble_eq_true rfl) rfl rfl (Nat.le_of_ble_eq_true rfl) d_X12_readBook_1 rfl (fun s1 => ?_)
  refine g_f_X12_readBook_L4 l w F  F s1
def f_X12_takeOver_L18 (F : Nat) : Nat → Int32 → St → Option (St)
  | 0, _, _ => none
  | n + 1, v3, g =>
    if v3 < (16 : Int32) then (
      if inb v3 16 then (
        if inb v3 16 then (
          Option.bind (some (setl g (2) (ix v3) (g.2 (17) (ix v3)))) fun s8 =>
          if inb v3 16 then (
            if inb v3 16 then (
              Option.bind (some (seti s8 (3) (ix v3) (s8.1 (18) (ix v3)))) fun s11 =>
              f_X12_takeOver_L18 F n (v3 + (1 : Int32)) s11)
            else none)
          else none)
        else none)
      else none)
    else (
      some g)
def f_X12_takeOver_L56 (F : Nat) : Nat → Int32 → St → Option (St)
  | 0, _, _ => none
  | n + 1, v13, g =>
    if v13 < (80 : Int32) then (
      if inb v13 80 then (
        if inb v13 80 then (
          Option.bind (some (seti g (4) (ix v13) (g.1 (19) (ix v13)))) fun s18 =>
          if inb v13 80 then (
            if inb v13 80 then (
              if s18.1 (20) (ix v13) = 0 ∨ s18.1 (20) (ix v13) = 1 then (
                Option.bind (some (seti s18 (5) (ix v13) (s18.1 (20) (ix v13)))) fun s22 =>
                f_X12_takeOver_L56 F n (v13 + (1 : Int32)) s22)
              else none)
            else none)
          else none)
        else none)
      else none)
    else (
      some g)
def f_X12_takeOver_L94 (F : Nat) : Nat → Int32 → St → Option (St)
  | 0, _, _ => none
  | n + 1, v24, g =>
    if v24 < (256 : Int32) then (
      if inb v24 256 then (
        if inb v24 256 then (
          Option.bind (some (seti g (6) (ix v24) (g.1 (21) (ix v24)))) fun s29 =>
          f_X12_takeOver_L94 F n (v24 + (1 : Int32)) s29)
        else none)
      else none)
    else (
      some g)
def f_X12_takeOver_L121 (F : Nat) : Nat → Int32 → St → Option (St)
  | 0, _, _ => none
  | n + 1, v31, g =>
    if v31 < (60 : Int32) then (
      if inb v31 60 then (
        if inb v31 60 then (
          Option.bind (some (seti g (8) (ix v31) (g.1 (23) (ix v31)))) fun s36 =>
          if inb v31 60 then (
            if inb v31 60 then (
              Option.bind (some (seti s36 (11) (ix v31) (s36.1 (26) (ix v31)))) fun s39 =>
              if inb ((2 : Int32) * v31) 120 then (
                if inb ((2 : Int32) * v31) 120 then (
                  Option.bind (some (seti s39 (7) (ix ((2 : Int32) * v31)) (s39.1 (22) (ix ((2 : Int32) * v31))))) fun s42 =>
                  if inb (((2 : Int32) * v31) + (1 : Int32)) 120 then (
                    if inb (((2 : Int32) * v31) + (1 : Int32)) 120 then (
                      Option.bind (some (seti s42 (7) (ix (((2 : Int32) * v31) + (1 : Int32))) (s42.1 (22) (ix (((2 : Int32) * v31) + (1 : Int32)))))) fun s45 =>
                      f_X12_takeOver_L121 F n (v31 + (1 : Int32)) s45)
                    else none)
                  else none)
                else none)
              else none)
            else none)
          else none)
        else none)
      else none)
    else (
      some g)
def f_X12_takeOver_L195 (F : Nat) : Nat → Int32 → St → Option (St)
  | 0, _, _ => none
  | n + 1, v47, g =>
    if v47 < (720 : Int32) then (
      if inb v47 720 then (
        if inb v47 720 then (
          Option.bind (some (seti g (9) (ix v47) (g.1 (24) (ix v47)))) fun s52 =>
          f_X12_takeOver_L195 F n (v47 + (1 : Int32)) s52)
        else none)
      else none)
    else (
      some g)
def f_X12_takeOver_L222 (F : Nat) : Nat → Int32 → St → Option (St)
  | 0, _, _ => none
  | n + 1, v54, g =>
    if v54 < (4200 : Int32) then (
      if inb v54 4200 then (
        if inb v54 4200 then (
          Option.bind (some (seti g (10) (ix v54) (g.1 (25) (ix v54)))) fun s59 =>
          f_X12_takeOver_L222 F n (v54 + (1 : Int32)) s59)
        else none)
      else none)
    else (
      some g)
def f_X12_takeOver_L253 (F : Nat) : Nat → Int32 → St → Option (St)
  | 0, _, _ => none
  | n + 1, v62, g =>
    if v62 < (g.1 (0) 63) then (
      if inb v62 200 then (
        if inb v62 400 then (
          Option.bind (some (seti g (12) (ix v62) (g.1 (37) (ix v62)))) fun s67 =>
          f_X12_takeOver_L253 F n (v62 + (1 : Int32)) s67)
        else none)
      else none)
    else (
      some g)
def f_X12_takeOver_L281 (F : Nat) : Nat → Int32 → St → Option (St)
  | 0, _, _ => none
  | n + 1, v69, g =>
    if v69 < ((5 : Int32) * (g.1 (0) 63)) then (
      if inb v69 1000 then (
        if inb v69 2000 then (
          Option.bind (some (seti g (13) (ix v69) (g.1 (38) (ix v69)))) fun s74 =>
          f_X12_takeOver_L281 F n (v69 + (1 : Int32)) s74)
        else none)
      else none)
    else (
      some g)
def f_X12_takeOver_L319 (F : Nat) : Nat → Int32 → St → Option (St)
  | 0, _, _ => none
  | n + 1, v77, g =>
    if v77 < (g.1 (0) 66) then (
      if inb v77 8 then (
        if inb v77 8 then (
          Option.bind (some (seti g (14) (ix v77) (g.1 (39) (ix v77)))) fun s82 =>
          f_X12_takeOver_L319 F n (v77 + (1 : Int32)) s82)
        else none)
      else none)
    else (
      some g)
def f_X12_takeOver_L378 (F : Nat) : Nat → Int32 → St → Option (St)
  | 0, _, _ => none
  | n + 1, v89, g =>
    if v89 < (4 : Int32) then (
      if inb v89 4 then (
        Option.bind (some (seti g (47) (ix v89) (-1 : Int32))) fun s94 =>
        f_X12_takeOver_L378 F n (v89 + (1 : Int32)) s94)
      else none)
    else (
      some g)
def f_X12_takeOver (F : Nat) (σ : St) : Option (St) :=
  Option.bind (some (seti σ (0) 3 (σ.1 (0) 36))) fun s1 =>
  Option.bind (some (seti s1 (0) 8 (s1.1 (0) 41))) fun s2 =>
  Option.bind (f_X12_takeOver_L18 F F (0 : Int32) s2) fun t12 =>
  Option.bind (f_X12_takeOver_L56 F F (0 : Int32) t12) fun t23 =>
  Option.bind (f_X12_takeOver_L94 F F (0 : Int32) t23) fun t30 =>
  Option.bind (f_X12_takeOver_L121 F F (0 : Int32) t30) fun t46 =>
  Option.bind (f_X12_takeOver_L195 F F (0 : Int32) t46) fun t53 =>
  Option.bind (f_X12_takeOver_L222 F F (0 : Int32) t53) fun t60 =>
  Option.bind (f_X12_empty F t60) fun s61 =>
  Option.bind (f_X12_takeOver_L253 F F (0 : Int32) s61) fun t68 =>
  Option.bind (f_X12_takeOver_L281 F F (0 : Int32) t68) fun t75 =>
  Option.bind (some (seti t75 (0) 18 (t75.1 (0) 66))) fun s76 =>
  Option.bind (f_X12_takeOver_L319 F F (0 : Int32) s76) fun t83 =>
  Option.bind (some (seti t83 (0) 19 (t83.1 (0) 68))) fun s84 =>
  Option.bind (some (seti s84 (0) 20 (0 : Int32))) fun s85 =>
  Option.bind (some (seti s85 (0) 21 (s85.1 (0) 63))) fun s86 =>
  Option.bind (some (seti s86 (0) 22 (0 : Int32))) fun s87 =>
  Option.bind (some (seti s87 (0) 26 (0 : Int32))) fun s88 =>
  Option.bind (f_X12_takeOver_L378 F F (0 : Int32) s88) fun t95 =>
  some t95
set_option maxRecDepth 20000 in
theorem g_f_X12_takeOver_L18 (l : Launch) (w : Wo) (F : Nat) : ∀ (n : Nat) (v3 : Int32) (g : St), GG l w shM m_X12_takeOver 2 18 [some (.ref (0)), some (.int v3)] [] g (f_X12_takeOver_L18 F n v3 g) (fun (t : St) => .inl (54, [some (.ref (0)), none], [], t)) := by
  intro n
  induction n with
  | zero =>
    intro v3 g
    exact gg_none
  | succ n ih =>
    intro v3 g
    rw [f_X12_takeOver_L18]
    refine gg_st (go_iload_n 1 d_X12_takeOver_18 rfl rfl rfl) ?_
    refine gg_st (go_bipush d_X12_takeOver_19 cb_16 rfl) ?_
    refine gg_br (br_icmp_ge (tgt := 54) (pc' := 24) d_X12_takeOver_21 (by decide) rfl) (fun h5 => ?_) (fun h5 => ?_)
    · refine gg_st (go_aload_n 0 d_X12_takeOver_24 rfl rfl rfl) ?_
      refine gg_st (go_getR (j := 4) cf12 sM_0 rfl (by decide) fl_X12_17 d_X12_takeOver_25 rfl) ?_
      refine gg_st (go_iload_n 1 d_X12_takeOver_28 rfl rfl rfl) ?_
      refine gg_st (go_aload_n 0 d_X12_takeOver_29 rfl rfl rfl) ?_
      refine gg_st (go_getR (j := 37) cf12 sM_0 rfl (by decide) fl_X12_68 d_X12_takeOver_30 rfl) ?_
      refine gg_st (go_iload_n 1 d_X12_takeOver_33 rfl rfl rfl) ?_
      refine gg_gd (fun h6 => ?_)
      refine gg_st (go_lald sM_17 h6 d_X12_takeOver_34 rfl) ?_
      refine gg_gd (fun h7 => ?_)
      refine gg_st (go_last sM_2 h7 d_X12_takeOver_35 rfl) ?_
      refine gg_som (fun s8 => ?_)
      refine gg_st (go_aload_n 0 d_X12_takeOver_36 rfl rfl rfl) ?_
      refine gg_st (go_getR (j := 5) cf12 sM_0 rfl (by decide) fl_X12_21 d_X12_takeOver_37 rfl) ?_
      refine gg_st (go_iload_n 1 d_X12_takeOver_40 rfl rfl rfl) ?_
      refine gg_st (go_aload_n 0 d_X12_takeOver_41 rfl rfl rfl) ?_
      refine gg_st (go_getR (j := 38) cf12 sM_0 rfl (by decide) fl_X12_71 d_X12_takeOver_42 rfl) ?_
      refine gg_st (go_iload_n 1 d_X12_takeOver_45 rfl rfl rfl) ?_
      refine gg_gd (fun h9 => ?_)
      refine gg_st (go_iald sM_18 h9 d_X12_takeOver_46 rfl) ?_
      refine gg_gd (fun h10 => ?_)
      refine gg_st (go_iast sM_3 h10 d_X12_takeOver_47 rfl) ?_
      refine gg_som (fun s11 => ?_)
      refine gg_st (go_iinc 1 d_X12_takeOver_48 rfl (v := v3 + (1 : Int32)) (by rw [ci_1]) (by decide) (L' := [some (.ref (0)), some (.int (v3 + (1 : Int32)))]) rfl rfl) ?_
      refine gg_st (go_goto (pc' := 18) d_X12_takeOver_51 (by decide)) ?_
      exact ih (v3 + (1 : Int32)) s11
    · refine gg_st (go_fg [some (.ref (0)), none] ⟨rfl, trivial⟩) ?_
      exact gg_end rfl
set_option maxRecDepth 20000 in
theorem g_f_X12_takeOver_L56 (l : Launch) (w : Wo) (F : Nat) : ∀ (n : Nat) (v13 : Int32) (g : St), GG l w shM m_X12_takeOver 2 56 [some (.ref (0)), some (.int v13)] [] g (f_X12_takeOver_L56 F n v13 g) (fun (t : St) => .inl (92, [some (.ref (0)), none], [], t)) := by
  intro n
  induction n with
  | zero =>
    intro v13 g
    exact gg_none
  | succ n ih =>
    intro v13 g
    rw [f_X12_takeOver_L56]
    refine gg_st (go_iload_n 1 d_X12_takeOver_56 rfl rfl rfl) ?_
    refine gg_st (go_bipush d_X12_takeOver_57 cb_80 rfl) ?_
    refine gg_br (br_icmp_ge (tgt := 92) (pc' := 62) d_X12_takeOver_59 (by decide) rfl) (fun h15 => ?_) (fun h15 => ?_)
    · refine gg_st (go_aload_n 0 d_X12_takeOver_62 rfl rfl rfl) ?_
      refine gg_st (go_getR (j := 6) cf12 sM_0 rfl (by decide) fl_X12_24 d_X12_takeOver_63 rfl) ?_
      refine gg_st (go_iload_n 1 d_X12_takeOver_66 rfl rfl rfl) ?_
      refine gg_st (go_aload_n 0 d_X12_takeOver_67 rfl rfl rfl) ?_
      refine gg_st (go_getR (j := 39) cf12 sM_0 rfl (by decide) fl_X12_74 d_X12_takeOver_68 rfl) ?_
      refine gg_st (go_iload_n 1 d_X12_takeOver_71 rfl rfl rfl) ?_
      refine gg_gd (fun h16 => ?_)
      refine gg_st (go_iald sM_19 h16 d_X12_takeOver_72 rfl) ?_
      refine gg_gd (fun h17 => ?_)
      refine gg_st (go_iast sM_4 h17 d_X12_takeOver_73 rfl) ?_
      refine gg_som (fun s18 => ?_)
      refine gg_st (go_aload_n 0 d_X12_takeOver_74 rfl rfl rfl) ?_
      refine gg_st (go_getR (j := 7) cf12 sM_0 rfl (by decide) fl_X12_27 d_X12_takeOver_75 rfl) ?_
      refine gg_st (go_iload_n 1 d_X12_takeOver_78 rfl rfl rfl) ?_
      refine gg_st (go_aload_n 0 d_X12_takeOver_79 rfl rfl rfl) ?_
      refine gg_st (go_getR (j := 40) cf12 sM_0 rfl (by decide) fl_X12_77 d_X12_takeOver_80 rfl) ?_
      refine gg_st (go_iload_n 1 d_X12_takeOver_83 rfl rfl rfl) ?_
      refine gg_gd (fun h19 => ?_)
      refine gg_st (go_zald sM_20 h19 d_X12_takeOver_84 rfl) ?_
      refine gg_gd (fun h20 => ?_)
      refine gg_gd (fun h21 => ?_)
      refine gg_st (go_zast h21 sM_5 h20 d_X12_takeOver_85 rfl) ?_
      refine gg_som (fun s22 => ?_)
      refine gg_st (go_iinc 1 d_X12_takeOver_86 rfl (v := v13 + (1 : Int32)) (by rw [ci_1]) (by decide) (L' := [some (.ref (0)), some (.int (v13 + (1 : Int32)))]) rfl rfl) ?_
      refine gg_st (go_goto (pc' := 56) d_X12_takeOver_89 (by decide)) ?_
      exact ih (v13 + (1 : Int32)) s22
    · refine gg_st (go_fg [some (.ref (0)), none] ⟨rfl, trivial⟩) ?_
      exact gg_end rfl
set_option maxRecDepth 20000 in
theorem g_f_X12_takeOver_L94 (l : Launch) (w : Wo) (F : Nat) : ∀ (n : Nat) (v24 : Int32) (g : St), GG l w shM m_X12_takeOver 2 94 [some (.ref (0)), some (.int v24)] [] g (f_X12_takeOver_L94 F n v24 g) (fun (t : St) => .inl (119, [some (.ref (0)), none], [], t)) := by
  intro n
  induction n with
  | zero =>
    intro v24 g
    exact gg_none
  | succ n ih =>
    intro v24 g
    rw [f_X12_takeOver_L94]
    refine gg_st (go_iload_n 1 d_X12_takeOver_94 rfl rfl rfl) ?_
    refine gg_st (go_sipush d_X12_takeOver_95 cs_256 rfl) ?_
    refine gg_br (br_icmp_ge (tgt := 119) (pc' := 101) d_X12_takeOver_98 (by decide) rfl) (fun h26 => ?_) (fun h26 => ?_)
    · refine gg_st (go_aload_n 0 d_X12_takeOver_101 rfl rfl rfl) ?_
      refine gg_st (go_getR (j := 9) cf12 sM_0 rfl (by decide) fl_X12_31 d_X12_takeOver_102 rfl) ?_
      refine gg_st (go_iload_n 1 d_X12_takeOver_105 rfl rfl rfl) ?_
      refine gg_st (go_aload_n 0 d_X12_takeOver_106 rfl rfl rfl) ?_
      refine gg_st (go_getR (j := 42) cf12 sM_0 rfl (by decide) fl_X12_80 d_X12_takeOver_107 rfl) ?_
      refine gg_st (go_iload_n 1 d_X12_takeOver_110 rfl rfl rfl) ?_
      refine gg_gd (fun h27 => ?_)
      refine gg_st (go_iald sM_21 h27 d_X12_takeOver_111 rfl) ?_
      refine gg_gd (fun h28 => ?_)
      refine gg_st (go_iast sM_6 h28 d_X12_takeOver_112 rfl) ?_
      refine gg_som (fun s29 => ?_)
      refine gg_st (go_iinc 1 d_X12_takeOver_113 rfl (v := v24 + (1 : Int32)) (by rw [ci_1]) (by decide) (L' := [some (.ref (0)), some (.int (v24 + (1 : Int32)))]) rfl rfl) ?_
      refine gg_st (go_goto (pc' := 94) d_X12_takeOver_116 (by decide)) ?_
      exact ih (v24 + (1 : Int32)) s29
    · refine gg_st (go_fg [some (.ref (0)), none] ⟨rfl, trivial⟩) ?_
      exact gg_end rfl
set_option maxRecDepth 20000 in
theorem g_f_X12_takeOver_L121 (l : Launch) (w : Wo) (F : Nat) : ∀ (n : Nat) (v31 : Int32) (g : St), GG l w shM m_X12_takeOver 2 121 [some (.ref (0)), some (.int v31)] [] g (f_X12_takeOver_L121 F n v31 g) (fun (t : St) => .inl (193, [some (.ref (0)), none], [], t)) := by
  intro n
  induction n with
  | zero =>
    intro v31 g
    exact gg_none
  | succ n ih =>
    intro v31 g
    rw [f_X12_takeOver_L121]
    refine gg_st (go_iload_n 1 d_X12_takeOver_121 rfl rfl rfl) ?_
    refine gg_st (go_bipush d_X12_takeOver_122 cb_60 rfl) ?_
    refine gg_br (br_icmp_ge (tgt := 193) (pc' := 127) d_X12_takeOver_124 (by decide) rfl) (fun h33 => ?_) (fun h33 => ?_)
    · refine gg_st (go_aload_n 0 d_X12_takeOver_127 rfl rfl rfl) ?_
      refine gg_st (go_getR (j := 11) cf12 sM_0 rfl (by decide) fl_X12_37 d_X12_takeOver_128 rfl) ?_
      refine gg_st (go_iload_n 1 d_X12_takeOver_131 rfl rfl rfl) ?_
      refine gg_st (go_aload_n 0 d_X12_takeOver_132 rfl rfl rfl) ?_
      refine gg_st (go_getR (j := 44) cf12 sM_0 rfl (by decide) fl_X12_86 d_X12_takeOver_133 rfl) ?_
      refine gg_st (go_iload_n 1 d_X12_takeOver_136 rfl rfl rfl) ?_
      refine gg_gd (fun h34 => ?_)
      refine gg_st (go_iald sM_23 h34 d_X12_takeOver_137 rfl) ?_
      refine gg_gd (fun h35 => ?_)
      refine gg_st (go_iast sM_8 h35 d_X12_takeOver_138 rfl) ?_
      refine gg_som (fun s36 => ?_)
      refine gg_st (go_aload_n 0 d_X12_takeOver_139 rfl rfl rfl) ?_
      refine gg_st (go_getR (j := 14) cf12 sM_0 rfl (by decide) fl_X12_46 d_X12_takeOver_140 rfl) ?_
      refine gg_st (go_iload_n 1 d_X12_takeOver_143 rfl rfl rfl) ?_
      refine gg_st (go_aload_n 0 d_X12_takeOver_144 rfl rfl rfl) ?_
      refine gg_st (go_getR (j := 47) cf12 sM_0 rfl (by decide) fl_X12_95 d_X12_takeOver_145 rfl) ?_
      refine gg_st (go_iload_n 1 d_X12_takeOver_148 rfl rfl rfl) ?_
      refine gg_gd (fun h37 => ?_)
      refine gg_st (go_iald sM_26 h37 d_X12_takeOver_149 rfl) ?_
      refine gg_gd (fun h38 => ?_)
      refine gg_st (go_iast sM_11 h38 d_X12_takeOver_150 rfl) ?_
      refine gg_som (fun s39 => ?_)
      refine gg_st (go_aload_n 0 d_X12_takeOver_151 rfl rfl rfl) ?_
      refine gg_st (go_getR (j := 10) cf12 sM_0 rfl (by decide) fl_X12_34 d_X12_takeOver_152 rfl) ?_
      refine gg_st (go_iconst d_X12_takeOver_155 ci_2 rfl) ?_
      refine gg_st (go_iload_n 1 d_X12_takeOver_156 rfl rfl rfl) ?_
      refine gg_st (go_imul d_X12_takeOver_157 rfl) ?_
      refine gg_st (go_aload_n 0 d_X12_takeOver_158 rfl rfl rfl) ?_
      refine gg_st (go_getR (j := 43) cf12 sM_0 rfl (by decide) fl_X12_83 d_X12_takeOver_159 rfl) ?_
      refine gg_st (go_iconst d_X12_takeOver_162 ci_2 rfl) ?_
      refine gg_st (go_iload_n 1 d_X12_takeOver_163 rfl rfl rfl) ?_
      refine gg_st (go_imul d_X12_takeOver_164 rfl) ?_
      refine gg_gd (fun h40 => ?_)
      refine gg_st (go_iald sM_22 h40 d_X12_takeOver_165 rfl) ?_
      refine gg_gd (fun h41 => ?_)
      refine gg_st (go_iast sM_7 h41 d_X12_takeOver_166 rfl) ?_
      refine gg_som (fun s42 => ?_)
      refine gg_st (go_aload_n 0 d_X12_takeOver_167 rfl rfl rfl) ?_
      refine gg_st (go_getR (j := 10) cf12 sM_0 rfl (by decide) fl_X12_34 d_X12_takeOver_168 rfl) ?_
      refine gg_st (go_iconst d_X12_takeOver_171 ci_2 rfl) ?_
      refine gg_st (go_iload_n 1 d_X12_takeOver_172 rfl rfl rfl) ?_
      refine gg_st (go_imul d_X12_takeOver_173 rfl) ?_
      refine gg_st (go_iconst d_X12_takeOver_174 ci_1 rfl) ?_
      refine gg_st (go_iadd d_X12_takeOver_175 rfl) ?_
      refine gg_st (go_aload_n 0 d_X12_takeOver_176 rfl rfl rfl) ?_
      refine gg_st (go_getR (j := 43) cf12 sM_0 rfl (by decide) fl_X12_83 d_X12_takeOver_177 rfl) ?_
      refine gg_st (go_iconst d_X12_takeOver_180 ci_2 rfl) ?_
      refine gg_st (go_iload_n 1 d_X12_takeOver_181 rfl rfl rfl) ?_
      refine gg_st (go_imul d_X12_takeOver_182 rfl) ?_
      refine gg_st (go_iconst d_X12_takeOver_183 ci_1 rfl) ?_
      refine gg_st (go_iadd d_X12_takeOver_184 rfl) ?_
      refine gg_gd (fun h43 => ?_)
      refine gg_st (go_iald sM_22 h43 d_X12_takeOver_185 rfl) ?_
      refine gg_gd (fun h44 => ?_)
      refine gg_st (go_iast sM_7 h44 d_X12_takeOver_186 rfl) ?_
      refine gg_som (fun s45 => ?_)
      refine gg_st (go_iinc 1 d_X12_takeOver_187 rfl (v := v31 + (1 : Int32)) (by rw [ci_1]) (by decide) (L' := [some (.ref (0)), some (.int (v31 + (1 : Int32)))]) rfl rfl) ?_
      refine gg_st (go_goto (pc' := 121) d_X12_takeOver_190 (by decide)) ?_
      exact ih (v31 + (1 : Int32)) s45
    · refine gg_st (go_fg [some (.ref (0)), none] ⟨rfl, trivial⟩) ?_
      exact gg_end rfl
set_option maxRecDepth 20000 in
theorem g_f_X12_takeOver_L195 (l : Launch) (w : Wo) (F : Nat) : ∀ (n : Nat) (v47 : Int32) (g : St), GG l w shM m_X12_takeOver 2 195 [some (.ref (0)), some (.int v47)] [] g (f_X12_takeOver_L195 F n v47 g) (fun (t : St) => .inl (220, [some (.ref (0)), none], [], t)) := by
  intro n
  induction n with
  | zero =>
    intro v47 g
    exact gg_none
  | succ n ih =>
    intro v47 g
    rw [f_X12_takeOver_L195]
    refine gg_st (go_iload_n 1 d_X12_takeOver_195 rfl rfl rfl) ?_
    refine gg_st (go_sipush d_X12_takeOver_196 cs_720 rfl) ?_
    refine gg_br (br_icmp_ge (tgt := 220) (pc' := 202) d_X12_takeOver_199 (by decide) rfl) (fun h49 => ?_) (fun h49 => ?_)
    · refine gg_st (go_aload_n 0 d_X12_takeOver_202 rfl rfl rfl) ?_
      refine gg_st (go_getR (j := 12) cf12 sM_0 rfl (by decide) fl_X12_40 d_X12_takeOver_203 rfl) ?_
      refine gg_st (go_iload_n 1 d_X12_takeOver_206 rfl rfl rfl) ?_
      refine gg_st (go_aload_n 0 d_X12_takeOver_207 rfl rfl rfl) ?_
      refine gg_st (go_getR (j := 45) cf12 sM_0 rfl (by decide) fl_X12_89 d_X12_takeOver_208 rfl) ?_
      refine gg_st (go_iload_n 1 d_X12_takeOver_211 rfl rfl rfl) ?_
      refine gg_gd (fun h50 => ?_)
      refine gg_st (go_iald sM_24 h50 d_X12_takeOver_212 rfl) ?_
      refine gg_gd (fun h51 => ?_)
      refine gg_st (go_iast sM_9 h51 d_X12_takeOver_213 rfl) ?_
      refine gg_som (fun s52 => ?_)
      refine gg_st (go_iinc 1 d_X12_takeOver_214 rfl (v := v47 + (1 : Int32)) (by rw [ci_1]) (by decide) (L' := [some (.ref (0)), some (.int (v47 + (1 : Int32)))]) rfl rfl) ?_
      refine gg_st (go_goto (pc' := 195) d_X12_takeOver_217 (by decide)) ?_
      exact ih (v47 + (1 : Int32)) s52
    · refine gg_st (go_fg [some (.ref (0)), none] ⟨rfl, trivial⟩) ?_
      exact gg_end rfl
set_option maxRecDepth 20000 in
theorem g_f_X12_takeOver_L222 (l : Launch) (w : Wo) (F : Nat) : ∀ (n : Nat) (v54 : Int32) (g : St), GG l w shM m_X12_takeOver 2 222 [some (.ref (0)), some (.int v54)] [] g (f_X12_takeOver_L222 F n v54 g) (fun (t : St) => .inl (247, [some (.ref (0)), none], [], t)) := by
  intro n
  induction n with
  | zero =>
    intro v54 g
    exact gg_none
  | succ n ih =>
    intro v54 g
    rw [f_X12_takeOver_L222]
    refine gg_st (go_iload_n 1 d_X12_takeOver_222 rfl rfl rfl) ?_
    refine gg_st (go_sipush d_X12_takeOver_223 cs_4200 rfl) ?_
    refine gg_br (br_icmp_ge (tgt := 247) (pc' := 229) d_X12_takeOver_226 (by decide) rfl) (fun h56 => ?_) (fun h56 => ?_)
    · refine gg_st (go_aload_n 0 d_X12_takeOver_229 rfl rfl rfl) ?_
      refine gg_st (go_getR (j := 13) cf12 sM_0 rfl (by decide) fl_X12_43 d_X12_takeOver_230 rfl) ?_
      refine gg_st (go_iload_n 1 d_X12_takeOver_233 rfl rfl rfl) ?_
      refine gg_st (go_aload_n 0 d_X12_takeOver_234 rfl rfl rfl) ?_
      refine gg_st (go_getR (j := 46) cf12 sM_0 rfl (by decide) fl_X12_92 d_X12_takeOver_235 rfl) ?_
      refine gg_st (go_iload_n 1 d_X12_takeOver_238 rfl rfl rfl) ?_
      refine gg_gd (fun h57 => ?_)
      refine gg_st (go_iald sM_25 h57 d_X12_takeOver_239 rfl) ?_
      refine gg_gd (fun h58 => ?_)
      refine gg_st (go_iast sM_10 h58 d_X12_takeOver_240 rfl) ?_
      refine gg_som (fun s59 => ?_)
      refine gg_st (go_iinc 1 d_X12_takeOver_241 rfl (v := v54 + (1 : Int32)) (by rw [ci_1]) (by decide) (L' := [some (.ref (0)), some (.int (v54 + (1 : Int32)))]) rfl rfl) ?_
      refine gg_st (go_goto (pc' := 222) d_X12_takeOver_244 (by decide)) ?_
      exact ih (v54 + (1 : Int32)) s59
    · refine gg_st (go_fg [some (.ref (0)), none] ⟨rfl, trivial⟩) ?_
      exact gg_end rfl
set_option maxRecDepth 20000 in
theorem g_f_X12_takeOver_L253 (l : Launch) (w : Wo) (F : Nat) : ∀ (n : Nat) (v62 : Int32) (g : St), GG l w shM m_X12_takeOver 2 253 [some (.ref (0)), some (.int v62)] [] g (f_X12_takeOver_L253 F n v62 g) (fun (t : St) => .inl (279, [some (.ref (0)), none], [], t)) := by
  intro n
  induction n with
  | zero =>
    intro v62 g
    exact gg_none
  | succ n ih =>
    intro v62 g
    rw [f_X12_takeOver_L253]
    refine gg_st (go_iload_n 1 d_X12_takeOver_253 rfl rfl rfl) ?_
    refine gg_st (go_aload_n 0 d_X12_takeOver_254 rfl rfl rfl) ?_
    refine gg_st (go_getI (j := 63) cf12 sM_0 rfl (by decide) fl_X12_327 d_X12_takeOver_255 rfl) ?_
    refine gg_br (br_icmp_ge (tgt := 279) (pc' := 261) d_X12_takeOver_258 (by decide) rfl) (fun h64 => ?_) (fun h64 => ?_)
    · refine gg_st (go_aload_n 0 d_X12_takeOver_261 rfl rfl rfl) ?_
      refine gg_st (go_getR (j := 15) cf12 sM_0 rfl (by decide) fl_X12_49 d_X12_takeOver_262 rfl) ?_
      refine gg_st (go_iload_n 1 d_X12_takeOver_265 rfl rfl rfl) ?_
      refine gg_st (go_aload_n 0 d_X12_takeOver_266 rfl rfl rfl) ?_
      refine gg_st (go_getR (j := 64) cf12 sM_0 rfl (by decide) fl_X12_128 d_X12_takeOver_267 rfl) ?_
      refine gg_st (go_iload_n 1 d_X12_takeOver_270 rfl rfl rfl) ?_
      refine gg_gd (fun h65 => ?_)
      refine gg_st (go_iald sM_37 h65 d_X12_takeOver_271 rfl) ?_
      refine gg_gd (fun h66 => ?_)
      refine gg_st (go_iast sM_12 h66 d_X12_takeOver_272 rfl) ?_
      refine gg_som (fun s67 => ?_)
      refine gg_st (go_iinc 1 d_X12_takeOver_273 rfl (v := v62 + (1 : Int32)) (by rw [ci_1]) (by decide) (L' := [some (.ref (0)), some (.int (v62 + (1 : Int32)))]) rfl rfl) ?_
      refine gg_st (go_goto (pc' := 253) d_X12_takeOver_276 (by decide)) ?_
      exact ih (v62 + (1 : Int32)) s67
    · refine gg_st (go_fg [some (.ref (0)), none] ⟨rfl, trivial⟩) ?_
      exact gg_end rfl
set_option maxRecDepth 20000 in
theorem g_f_X12_takeOver_L281 (l : Launch) (w : Wo) (F : Nat) : ∀ (n : Nat) (v69 : Int32) (g : St), GG l w shM m_X12_takeOver 2 281 [some (.ref (0)), some (.int v69)] [] g (f_X12_takeOver_L281 F n v69 g) (fun (t : St) => .inl (309, [some (.ref (0)), none], [], t)) := by
  intro n
  induction n with
  | zero =>
    intro v69 g
    exact gg_none
  | succ n ih =>
    intro v69 g
    rw [f_X12_takeOver_L281]
    refine gg_st (go_iload_n 1 d_X12_takeOver_281 rfl rfl rfl) ?_
    refine gg_st (go_iconst d_X12_takeOver_282 ci_5 rfl) ?_
    refine gg_st (go_aload_n 0 d_X12_takeOver_283 rfl rfl rfl) ?_
    refine gg_st (go_getI (j := 63) cf12 sM_0 rfl (by decide) fl_X12_327 d_X12_takeOver_284 rfl) ?_
    refine gg_st (go_imul d_X12_takeOver_287 rfl) ?_
    refine gg_br (br_icmp_ge (tgt := 309) (pc' := 291) d_X12_takeOver_288 (by decide) rfl) (fun h71 => ?_) (fun h71 => ?_)
    · refine gg_st (go_aload_n 0 d_X12_takeOver_291 rfl rfl rfl) ?_
      refine gg_st (go_getR (j := 16) cf12 sM_0 rfl (by decide) fl_X12_52 d_X12_takeOver_292 rfl) ?_
      refine gg_st (go_iload_n 1 d_X12_takeOver_295 rfl rfl rfl) ?_
      refine gg_st (go_aload_n 0 d_X12_takeOver_296 rfl rfl rfl) ?_
      refine gg_st (go_getR (j := 65) cf12 sM_0 rfl (by decide) fl_X12_131 d_X12_takeOver_297 rfl) ?_
      refine gg_st (go_iload_n 1 d_X12_takeOver_300 rfl rfl rfl) ?_
      refine gg_gd (fun h72 => ?_)
      refine gg_st (go_iald sM_38 h72 d_X12_takeOver_301 rfl) ?_
      refine gg_gd (fun h73 => ?_)
      refine gg_st (go_iast sM_13 h73 d_X12_takeOver_302 rfl) ?_
      refine gg_som (fun s74 => ?_)
      refine gg_st (go_iinc 1 d_X12_takeOver_303 rfl (v := v69 + (1 : Int32)) (by rw [ci_1]) (by decide) (L' := [some (.ref (0)), some (.int (v69 + (1 : Int32)))]) rfl rfl) ?_
      refine gg_st (go_goto (pc' := 281) d_X12_takeOver_306 (by decide)) ?_
      exact ih (v69 + (1 : Int32)) s74
    · refine gg_st (go_fg [some (.ref (0)), none] ⟨rfl, trivial⟩) ?_
      exact gg_end rfl
set_option maxRecDepth 20000 in
theorem g_f_X12_takeOver_L319 (l : Launch) (w : Wo) (F : Nat) : ∀ (n : Nat) (v77 : Int32) (g : St), GG l w shM m_X12_takeOver 2 319 [some (.ref (0)), some (.int v77)] [] g (f_X12_takeOver_L319 F n v77 g) (fun (t : St) => .inl (345, [some (.ref (0)), none], [], t)) := by
  intro n
  induction n with
  | zero =>
    intro v77 g
    exact gg_none
  | succ n ih =>
    intro v77 g
    rw [f_X12_takeOver_L319]
    refine gg_st (go_iload_n 1 d_X12_takeOver_319 rfl rfl rfl) ?_
    refine gg_st (go_aload_n 0 d_X12_takeOver_320 rfl rfl rfl) ?_
    refine gg_st (go_getI (j := 66) cf12 sM_0 rfl (by decide) fl_X12_324 d_X12_takeOver_321 rfl) ?_
    refine gg_br (br_icmp_ge (tgt := 345) (pc' := 327) d_X12_takeOver_324 (by decide) rfl) (fun h79 => ?_) (fun h79 => ?_)
    · refine gg_st (go_aload_n 0 d_X12_takeOver_327 rfl rfl rfl) ?_
      refine gg_st (go_getR (j := 17) cf12 sM_0 rfl (by decide) fl_X12_55 d_X12_takeOver_328 rfl) ?_
      refine gg_st (go_iload_n 1 d_X12_takeOver_331 rfl rfl rfl) ?_
      refine gg_st (go_aload_n 0 d_X12_takeOver_332 rfl rfl rfl) ?_
      refine gg_st (go_getR (j := 67) cf12 sM_0 rfl (by decide) fl_X12_134 d_X12_takeOver_333 rfl) ?_
      refine gg_st (go_iload_n 1 d_X12_takeOver_336 rfl rfl rfl) ?_
      refine gg_gd (fun h80 => ?_)
      refine gg_st (go_iald sM_39 h80 d_X12_takeOver_337 rfl) ?_
      refine gg_gd (fun h81 => ?_)
      refine gg_st (go_iast sM_14 h81 d_X12_takeOver_338 rfl) ?_
      refine gg_som (fun s82 => ?_)
      refine gg_st (go_iinc 1 d_X12_takeOver_339 rfl (v := v77 + (1 : Int32)) (by rw [ci_1]) (by decide) (L' := [some (.ref (0)), some (.int (v77 + (1 : Int32)))]) rfl rfl) ?_
      refine gg_st (go_goto (pc' := 319) d_X12_takeOver_342 (by decide)) ?_
      exact ih (v77 + (1 : Int32)) s82
    · refine gg_st (go_fg [some (.ref (0)), none] ⟨rfl, trivial⟩) ?_
      exact gg_end rfl
set_option maxRecDepth 20000 in
theorem g_f_X12_takeOver_L378 (l : Launch) (w : Wo) (F : Nat) : ∀ (n : Nat) (v89 : Int32) (g : St), GG l w shM m_X12_takeOver 2 378 [some (.ref (0)), some (.int v89)] [] g (f_X12_takeOver_L378 F n v89 g) (fun (t : St) => .inl (396, [none, none], [], t)) := by
  intro n
  induction n with
  | zero =>
    intro v89 g
    exact gg_none
  | succ n ih =>
    intro v89 g
    rw [f_X12_takeOver_L378]
    refine gg_st (go_iload_n 1 d_X12_takeOver_378 rfl rfl rfl) ?_
    refine gg_st (go_iconst d_X12_takeOver_379 ci_4 rfl) ?_
    refine gg_br (br_icmp_ge (tgt := 396) (pc' := 383) d_X12_takeOver_380 (by decide) rfl) (fun h92 => ?_) (fun h92 => ?_)
    · refine gg_st (go_aload_n 0 d_X12_takeOver_383 rfl rfl rfl) ?_
      refine gg_st (go_getR (j := 76) cf12 sM_0 rfl (by decide) fl_X12_158 d_X12_takeOver_384 rfl) ?_
      refine gg_st (go_iload_n 1 d_X12_takeOver_387 rfl rfl rfl) ?_
      refine gg_st (go_iconst d_X12_takeOver_388 ci_m1 rfl) ?_
      refine gg_gd (fun h93 => ?_)
      refine gg_st (go_iast sM_47 h93 d_X12_takeOver_389 rfl) ?_
      refine gg_som (fun s94 => ?_)
      refine gg_st (go_iinc 1 d_X12_takeOver_390 rfl (v := v89 + (1 : Int32)) (by rw [ci_1]) (by decide) (L' := [some (.ref (0)), some (.int (v89 + (1 : Int32)))]) rfl rfl) ?_
      refine gg_st (go_goto (pc' := 378) d_X12_takeOver_393 (by decide)) ?_
      exact ih (v89 + (1 : Int32)) s94
    · refine gg_st (go_fg [none, none] trivial) ?_
      exact gg_end rfl
set_option maxRecDepth 20000 in
theorem k_X12_takeOver (l : Launch) (w : Wo) (F : Nat) (σ : St) : K l w shM m_X12_takeOver 2 [.ref (0)] σ (f_X12_takeOver F σ) (rV) := by
  refine k_of (L := [some (.ref (0)), none]) (plainFor_of_name (by decide +kernel)) 1 rfl (Nat.le_of_ble_eq_true rfl) ?_
  unfold f_X12_takeOver
  refine gg_st (go_aload_n 0 d_X12_takeOver_0 rfl rfl rfl) ?_
  refine gg_st (go_aload_n 0 d_X12_takeOver_1 rfl rfl rfl) ?_
  refine gg_st (go_getI (j := 36) cf12 sM_0 rfl (by decide) fl_X12_248 d_X12_takeOver_2 rfl) ?_
  refine gg_st (go_putI (j := 3) cf12 sM_0 rfl (by decide) rfl rfl fl_X12_354 d_X12_takeOver_5 rfl) ?_
  refine gg_som (fun s1 => ?_)
  refine gg_st (go_aload_n 0 d_X12_takeOver_8 rfl rfl rfl) ?_
  refine gg_st (go_aload_n 0 d_X12_takeOver_9 rfl rfl rfl) ?_
  refine gg_st (go_getI (j := 41) cf12 sM_0 rfl (by decide) fl_X12_296 d_X12_takeOver_10 rfl) ?_
  refine gg_st (go_putI (j := 8) cf12 sM_0 rfl (by decide) rfl rfl fl_X12_357 d_X12_takeOver_13 rfl) ?_
  refine gg_som (fun s2 => ?_)
  refine gg_st (go_iconst d_X12_takeOver_16 ci_0 rfl) ?_
  refine gg_st (go_istore_n 1 d_X12_takeOver_17 rfl (by decide) (L' := [some (.ref (0)), some (.int (0 : Int32))]) rfl rfl) ?_
  refine gg_bind 54 (fun (t12 : St) => [some (.ref (0)), none]) (fun (t12 : St) => []) (fun (t12 : St) => t12) (g_f_X12_takeOver_L18 l w F F (0 : Int32) s2) (fun t12 => ?_)
  refine gg_st (go_iconst d_X12_takeOver_54 ci_0 rfl) ?_
  refine gg_st (go_istore_n 1 d_X12_takeOver_55 rfl (by decide) (L' := [some (.ref (0)), some (.int (0 : Int32))]) rfl rfl) ?_
  refine gg_bind 92 (fun (t23 : St) => [some (.ref (0)), none]) (fun (t23 : St) => []) (fun (t23 : St) => t23) (g_f_X12_takeOver_L56 l w F F (0 : Int32) t12) (fun t23 => ?_)
  refine gg_st (go_iconst d_X12_takeOver_92 ci_0 rfl) ?_
  refine gg_st (go_istore_n 1 d_X12_takeOver_93 rfl (by decide) (L' := [some (.ref (0)), some (.int (0 : Int32))]) rfl rfl) ?_
  refine gg_bind 119 (fun (t30 : St) => [some (.ref (0)), none]) (fun (t30 : St) => []) (fun (t30 : St) => t30) (g_f_X12_takeOver_L94 l w F F (0 : Int32) t23) (fun t30 => ?_)
  refine gg_st (go_iconst d_X12_takeOver_119 ci_0 rfl) ?_
  refine gg_st (go_istore_n 1 d_X12_takeOver_120 rfl (by decide) (L' := [some (.ref (0)), some (.int (0 : Int32))]) rfl rfl) ?_
  refine gg_bind 193 (fun (t46 : St) => [some (.ref (0)), none]) (fun (t46 : St) => []) (fun (t46 : St) => t46) (g_f_X12_takeOver_L121 l w F F (0 : Int32) t30) (fun t46 => ?_)
  refine gg_st (go_iconst d_X12_takeOver_193 ci_0 rfl) ?_
  refine gg_st (go_istore_n 1 d_X12_takeOver_194 rfl (by decide) (L' := [some (.ref (0)), some (.int (0 : Int32))]) rfl rfl) ?_
  refine gg_bind 220 (fun (t53 : St) => [some (.ref (0)), none]) (fun (t53 : St) => []) (fun (t53 : St) => t53) (g_f_X12_takeOver_L195 l w F F (0 : Int32) t46) (fun t53 => ?_)
  refine gg_st (go_iconst d_X12_takeOver_220 ci_0 rfl) ?_
  refine gg_st (go_istore_n 1 d_X12_takeOver_221 rfl (by decide) (L' := [some (.ref (0)), some (.int (0 : Int32))]) rfl rfl) ?_
  refine gg_bind 247 (fun (t60 : St) => [some (.ref (0)), none]) (fun (t60 : St) => []) (fun (t60 : St) => t60) (g_f_X12_takeOver_L222 l w F F (0 : Int32) t53) (fun t60 => ?_)
  refine gg_st (go_aload_n 0 d_X12_takeOver_247 rfl rfl rfl) ?_
  refine gv_V (k_X12_empty l w F  t60) cv_X12_179 sM_0 (Nat.le_of_ble_eq_true rfl) rfl rfl (Nat.le_of_ble_eq_true rfl) d_X12_takeOver_248 rfl (fun s61 => ?_)
  refine gg_st (go_iconst d_X12_takeOver_251 ci_0 rfl) ?_
  refine gg_st (go_istore_n 1 d_X12_takeOver_252 rfl (by decide) (L' := [some (.ref (0)), some (.int (0 : Int32))]) rfl rfl) ?_
  refine gg_bind 279 (fun (t68 : St) => [some (.ref (0)), none]) (fun (t68 : St) => []) (fun (t68 : St) => t68) (g_f_X12_takeOver_L253 l w F F (0 : Int32) s61) (fun t68 => ?_)
  refine gg_st (go_iconst d_X12_takeOver_279 ci_0 rfl) ?_
  refine gg_st (go_istore_n 1 d_X12_takeOver_280 rfl (by decide) (L' := [some (.ref (0)), some (.int (0 : Int32))]) rfl rfl) ?_
  refine gg_bind 309 (fun (t75 : St) => [some (.ref (0)), none]) (fun (t75 : St) => []) (fun (t75 : St) => t75) (g_f_X12_takeOver_L281 l w F F (0 : Int32) t68) (fun t75 => ?_)
  refine gg_st (go_aload_n 0 d_X12_takeOver_309 rfl rfl rfl) ?_
  refine gg_st (go_aload_n 0 d_X12_takeOver_310 rfl rfl rfl) ?_
  refine gg_st (go_getI (j := 66) cf12 sM_0 rfl (by decide) fl_X12_324 d_X12_takeOver_311 rfl) ?_
  refine gg_st (go_putI (j := 18) cf12 sM_0 rfl (by decide) rfl rfl fl_X12_182 d_X12_takeOver_314 rfl) ?_
  refine gg_som (fun s76 => ?_)
  refine gg_st (go_iconst d_X12_takeOver_317 ci_0 rfl) ?_
  refine gg_st (go_istore_n 1 d_X12_takeOver_318 rfl (by decide) (L' := [some (.ref (0)), some (.int (0 : Int32))]) rfl rfl) ?_
  refine gg_bind 345 (fun (t83 : St) => [some (.ref (0)), none]) (fun (t83 : St) => []) (fun (t83 : St) => t83) (g_f_X12_takeOver_L319 l w F F (0 : Int32) s76) (fun t83 => ?_)
  refine gg_st (go_aload_n 0 d_X12_takeOver_345 rfl rfl rfl) ?_
  refine gg_st (go_aload_n 0 d_X12_takeOver_346 rfl rfl rfl) ?_
  refine gg_st (go_getI (j := 68) cf12 sM_0 rfl (by decide) fl_X12_330 d_X12_takeOver_347 rfl) ?_
  refine gg_st (go_putI (j := 19) cf12 sM_0 rfl (by decide) rfl rfl fl_X12_185 d_X12_takeOver_350 rfl) ?_
  refine gg_som (fun s84 => ?_)
  refine gg_st (go_aload_n 0 d_X12_takeOver_353 rfl rfl rfl) ?_
  refine gg_st (go_iconst d_X12_takeOver_354 ci_0 rfl) ?_
  refine gg_st (go_putI (j := 20) cf12 sM_0 rfl (by decide) rfl rfl fl_X12_360 d_X12_takeOver_355 rfl) ?_
  refine gg_som (fun s85 => ?_)
  refine gg_st (go_aload_n 0 d_X12_takeOver_358 rfl rfl rfl) ?_
  refine gg_st (go_aload_n 0 d_X12_takeOver_359 rfl rfl rfl) ?_
  refine gg_st (go_getI (j := 63) cf12 sM_0 rfl (by decide) fl_X12_327 d_X12_takeOver_360 rfl) ?_
  refine gg_st (go_putI (j := 21) cf12 sM_0 rfl (by decide) rfl rfl fl_X12_363 d_X12_takeOver_363 rfl) ?_
  refine gg_som (fun s86 => ?_)
  refine gg_st (go_aload_n 0 d_X12_takeOver_366 rfl rfl rfl) ?_
  refine gg_st (go_iconst d_X12_takeOver_367 ci_0 rfl) ?_
  refine gg_st (go_putI (j := 22) cf12 sM_0 rfl (by decide) rfl rfl fl_X12_366 d_X12_takeOver_368 rfl) ?_
  refine gg_som (fun s87 => ?_)
  refine gg_st (go_aload_n 0 d_X12_takeOver_371 rfl rfl rfl) ?_
  refine gg_st (go_iconst d_X12_takeOver_372 ci_0 rfl) ?_
  refine gg_st (go_putI (j := 26) cf12 sM_0 rfl (by decide) rfl rfl fl_X12_369 d_X12_takeOver_373 rfl) ?_
  refine gg_som (fun s88 => ?_)
  refine gg_st (go_iconst d_X12_takeOver_376 ci_0 rfl) ?_
  refine gg_st (go_istore_n 1 d_X12_takeOver_377 rfl (by decide) (L' := [some (.ref (0)), some (.int (0 : Int32))]) rfl rfl) ?_
  refine gg_bind 396 (fun (t95 : St) => [none, none]) (fun (t95 : St) => []) (fun (t95 : St) => t95) (g_f_X12_takeOver_L378 l w F F (0 : Int32) s88) (fun t95 => ?_)
  exact gg_vret rfl d_X12_takeOver_396 rfl
