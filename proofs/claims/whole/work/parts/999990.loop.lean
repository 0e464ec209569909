/-! the law's loop (by program) -/
theorem law_out {x : Int32} (h0 : ¬ x = 0) (h1 : ¬ x = 1) (h2 : ¬ x = 2) (h3 : ¬ x = 3) (h4 : ¬ x = 4) (h5 : ¬ x = 5) (h6 : ¬ x = 6) (h7 : ¬ x = 7) (h8 : ¬ x = 8) (h9 : ¬ x = 9) (h10 : ¬ x = 10) (h11 : ¬ x = 11) (h12 : ¬ x = 12) (h13 : ¬ x = 13) (h14 : ¬ x = 14) (h15 : ¬ x = 15) (h16 : ¬ x = 16) (h17 : ¬ x = 17) (h18 : ¬ x = 18) (h19 : ¬ x = 19) (h20 : ¬ x = 20) : x.toInt < 0 ∨ 20 < x.toInt := by
  have e0 : x.toInt ≠ 0 := fun z => h0 (Int32.toInt_inj.mp (z.trans (by decide)))
  have e1 : x.toInt ≠ 1 := fun z => h1 (Int32.toInt_inj.mp (z.trans (by decide)))
  have e2 : x.toInt ≠ 2 := fun z => h2 (Int32.toInt_inj.mp (z.trans (by decide)))
  have e3 : x.toInt ≠ 3 := fun z => h3 (Int32.toInt_inj.mp (z.trans (by decide)))
  have e4 : x.toInt ≠ 4 := fun z => h4 (Int32.toInt_inj.mp (z.trans (by decide)))
  have e5 : x.toInt ≠ 5 := fun z => h5 (Int32.toInt_inj.mp (z.trans (by decide)))
  have e6 : x.toInt ≠ 6 := fun z => h6 (Int32.toInt_inj.mp (z.trans (by decide)))
  have e7 : x.toInt ≠ 7 := fun z => h7 (Int32.toInt_inj.mp (z.trans (by decide)))
  have e8 : x.toInt ≠ 8 := fun z => h8 (Int32.toInt_inj.mp (z.trans (by decide)))
  have e9 : x.toInt ≠ 9 := fun z => h9 (Int32.toInt_inj.mp (z.trans (by decide)))
  have e10 : x.toInt ≠ 10 := fun z => h10 (Int32.toInt_inj.mp (z.trans (by decide)))
  have e11 : x.toInt ≠ 11 := fun z => h11 (Int32.toInt_inj.mp (z.trans (by decide)))
  have e12 : x.toInt ≠ 12 := fun z => h12 (Int32.toInt_inj.mp (z.trans (by decide)))
  have e13 : x.toInt ≠ 13 := fun z => h13 (Int32.toInt_inj.mp (z.trans (by decide)))
  have e14 : x.toInt ≠ 14 := fun z => h14 (Int32.toInt_inj.mp (z.trans (by decide)))
  have e15 : x.toInt ≠ 15 := fun z => h15 (Int32.toInt_inj.mp (z.trans (by decide)))
  have e16 : x.toInt ≠ 16 := fun z => h16 (Int32.toInt_inj.mp (z.trans (by decide)))
  have e17 : x.toInt ≠ 17 := fun z => h17 (Int32.toInt_inj.mp (z.trans (by decide)))
  have e18 : x.toInt ≠ 18 := fun z => h18 (Int32.toInt_inj.mp (z.trans (by decide)))
  have e19 : x.toInt ≠ 19 := fun z => h19 (Int32.toInt_inj.mp (z.trans (by decide)))
  have e20 : x.toInt ≠ 20 := fun z => h20 (Int32.toInt_inj.mp (z.trans (by decide)))
  omega
set_option maxRecDepth 20000 in
theorem law_loop {l : Launch} {b Lq : Nat} {xs : Nat → Int32} {ce sl : Nat} {wm : Wo} {x1 F : Nat} (hL : Lq ≤ 3072) (hF : 10000 + bnd 40 ≤ F) (hce : ce ≤ 600000) (hsl : sl ≤ 7302250) : ∀ (n : Nat) (z : Int) (w : Wo) (σ τ : St), 0 ≤ z → z ≤ Lq → (Lq : Int) - z < n → w.2.2.2 = true → w.2.2.1 0 = x1 → Sim σ τ (500 * z) → PL l b Lq xs ce sl w wm 18 (L4 b x1 (wm.2.2.1 0) (I z)) [] σ τ := by
  intro n
  induction n with
  | zero => intro z w σ τ a1 a2 a3; omega
  | succ n ih =>
    intro z w σ τ z0 z1 zn hw hx hs
    subst hx
    refine pl_iload (pc' := 19) 3 d_law_18 rfl rfl rfl ?_
    refine pl_aload (pc' := 20) 0 d_law_19 rfl rfl rfl ?_
    refine pl_slen (pc' := 21) d_law_20 rfl ?_
    refine pl_bipush (pc' := 23) (v := 6) d_law_21 (by decide) rfl ?_
    refine pl_isub (pc' := 24) d_law_23 rfl ?_
    have e6 : Int32.ofNat Lq - (6 : Int32) = I (Lq - 6) := by rw [I_ofNat, show (6 : Int32) = I 6 from rfl, I_sub]
    rw [e6]
    refine pl_gt (tgt := 671) (pc' := 27) d_law_24 (by decide) rfl (fun _ => ?_) (fun hgt => ?_)
    · refine pl_iconst (pc' := 672) (v := 1) d_law_671 rfl rfl ?_
      exact pl_ret hce hsl d_law_672
    · rw [I_lt (by omega) (by omega) (by omega) (by omega)] at hgt
      have hi : ∀ k : Int, 0 ≤ k → k ≤ 5 → inb (I (z + k)) Lq = true := fun k a b => (I_inb (by omega) (by omega)).mpr ⟨by omega, by omega⟩
      have hi0 : inb (I z) Lq = true := (I_inb (by omega) (by omega)).mpr ⟨by omega, by omega⟩
      have h1 : inb (I z + 1) Lq = true := by rw [show (1 : Int32) = I 1 from rfl, I_add]; exact hi 1 (by omega) (by omega)
      have h2 : inb (I z + 2) Lq = true := by rw [show (2 : Int32) = I 2 from rfl, I_add]; exact hi 2 (by omega) (by omega)
      have h3 : inb (I z + 3) Lq = true := by rw [show (3 : Int32) = I 3 from rfl, I_add]; exact hi 3 (by omega) (by omega)
      have h4 : inb (I z + 4) Lq = true := by rw [show (4 : Int32) = I 4 from rfl, I_add]; exact hi 4 (by omega) (by omega)
      have h5 : inb (I z + 5) Lq = true := by rw [show (5 : Int32) = I 5 from rfl, I_add]; exact hi 5 (by omega) (by omega)
      have hq : 500 * z < 2147400000 := by omega
      have kk : ∀ w' σ' τ', (w' = w ∨ w' = swW w) → Sim σ' τ' (500 * z + 3000) → PL l b Lq xs ce sl w' wm 665 (L4 b (w.2.2.1 0) (wm.2.2.1 0) (I z)) [] σ' τ' := by
        intro w' σ' τ' hw' hs'
        refine pl_iinc (pc' := 668) (v := I (z + 6)) d_law_665 (show I z + I 6 = _ from I_add z 6) rfl ?_
        refine pl_goto (pc' := 18) d_law_668 (by decide) ?_
        exact ih (z + 6) w' σ' τ' (by omega) (by omega) (by omega) (by rcases hw' with rfl | rfl <;> exact hw) (by rcases hw' with rfl | rfl <;> rfl) (sim_mon2 hs' (by omega))
      refine pl_aload (pc' := 28) 0 d_law_27 rfl rfl rfl ?_
      refine pl_iload (pc' := 29) 3 d_law_28 rfl rfl rfl ?_
      refine pl_sld (pc' := 30) hi0 d_law_29 rfl ?_
      refine pl_bipush (pc' := 32) (v := 31) d_law_30 (by decide) rfl ?_
      refine pl_iand (pc' := 33) d_law_32 rfl ?_
      generalize xs (ix (I z)) &&& 31 = x
      by_cases c0 : x = 0
      · subst c0
        exact pl_tabI (off := 99) (pc' := 132) (by decide) (by decide) rfl (by decide) d_law_33 (law_c0 hF hce hsl hw hq hs h1 h2 h3 h4 h5 kk)
      by_cases c1 : x = 1
      · subst c1
        exact pl_tabI (off := 162) (pc' := 195) (by decide) (by decide) rfl (by decide) d_law_33 (law_c1 hF hce hsl hw hq hs h1 kk)
      by_cases c2 : x = 2
      · subst c2
        exact pl_tabI (off := 185) (pc' := 218) (by decide) (by decide) rfl (by decide) d_law_33 (law_c2 hF hce hsl hw hq hs  kk)
      by_cases c3 : x = 3
      · subst c3
        exact pl_tabI (off := 198) (pc' := 231) (by decide) (by decide) rfl (by decide) d_law_33 (law_c3 hF hce hsl hw hq hs  kk)
      by_cases c4 : x = 4
      · subst c4
        exact pl_tabI (off := 211) (pc' := 244) (by decide) (by decide) rfl (by decide) d_law_33 (law_c4 hF hce hsl hw hq hs h1 kk)
      by_cases c5 : x = 5
      · subst c5
        exact pl_tabI (off := 234) (pc' := 267) (by decide) (by decide) rfl (by decide) d_law_33 (law_c5 hF hce hsl hw hq hs h1 h2 kk)
      by_cases c6 : x = 6
      · subst c6
        exact pl_tabI (off := 267) (pc' := 300) (by decide) (by decide) rfl (by decide) d_law_33 (law_c6 hF hce hsl hw hq hs h1 h2 kk)
      by_cases c7 : x = 7
      · subst c7
        exact pl_tabI (off := 300) (pc' := 333) (by decide) (by decide) rfl (by decide) d_law_33 (law_c7 hF hce hsl hw hq hs h1 kk)
      by_cases c8 : x = 8
      · subst c8
        exact pl_tabI (off := 323) (pc' := 356) (by decide) (by decide) rfl (by decide) d_law_33 (law_c8 hF hce hsl hw hq hs h1 h2 kk)
      by_cases c9 : x = 9
      · subst c9
        exact pl_tabI (off := 356) (pc' := 389) (by decide) (by decide) rfl (by decide) d_law_33 (law_c9 hF hce hsl hw hq hs h1 kk)
      by_cases c10 : x = 10
      · subst c10
        exact pl_tabI (off := 379) (pc' := 412) (by decide) (by decide) rfl (by decide) d_law_33 (law_c10 hF hce hsl hw hq hs h1 kk)
      by_cases c11 : x = 11
      · subst c11
        exact pl_tabI (off := 402) (pc' := 435) (by decide) (by decide) rfl (by decide) d_law_33 (law_c11 hF hce hsl hw hq hs h1 kk)
      by_cases c12 : x = 12
      · subst c12
        exact pl_tabI (off := 425) (pc' := 458) (by decide) (by decide) rfl (by decide) d_law_33 (law_c12 hF hce hsl hw hq hs h1 h2 kk)
      by_cases c13 : x = 13
      · subst c13
        exact pl_tabI (off := 458) (pc' := 491) (by decide) (by decide) rfl (by decide) d_law_33 (law_c13 hF hce hsl hw hq hs h1 kk)
      by_cases c14 : x = 14
      · subst c14
        exact pl_tabI (off := 481) (pc' := 514) (by decide) (by decide) rfl (by decide) d_law_33 (law_c14 hF hce hsl hw hq hs h1 kk)
      by_cases c15 : x = 15
      · subst c15
        exact pl_tabI (off := 504) (pc' := 537) (by decide) (by decide) rfl (by decide) d_law_33 (law_c15 hF hce hsl hw hq hs h1 kk)
      by_cases c16 : x = 16
      · subst c16
        exact pl_tabI (off := 527) (pc' := 560) (by decide) (by decide) rfl (by decide) d_law_33 (law_c16 hF hce hsl hw hq hs h1 kk)
      by_cases c17 : x = 17
      · subst c17
        exact pl_tabI (off := 550) (pc' := 583) (by decide) (by decide) rfl (by decide) d_law_33 (law_c17 hF hce hsl hw hq hs h1 kk)
      by_cases c18 : x = 18
      · subst c18
        exact pl_tabI (off := 573) (pc' := 606) (by decide) (by decide) rfl (by decide) d_law_33 (law_c18 hF hce hsl hw hq hs  kk)
      by_cases c19 : x = 19
      · subst c19
        exact pl_tabI (off := 586) (pc' := 619) (by decide) (by decide) rfl (by decide) d_law_33 (law_c19 hF hce hsl hw hq hs h1 kk)
      by_cases c20 : x = 20
      · subst c20
        exact pl_tabI (off := 609) (pc' := 642) (by decide) (by decide) rfl (by decide) d_law_33 (law_c20 hF hce hsl hw hq hs h1 kk)
      exact pl_tabO (pc' := 665) (law_out c0 c1 c2 c3 c4 c5 c6 c7 c8 c9 c10 c11 c12 c13 c14 c15 c16 c17 c18 c19 c20) (by decide) d_law_33 (kk w σ τ (Or.inl rfl) (sim_mon2 hs (by omega)))
