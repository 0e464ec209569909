/-! run in rounds -/
section RU3
variable {B : BkT} {q : Int} {F : Nat}
/-- rows of the round may change -/
theorem sim_rows {N : NtT} {σ τ σ' τ' : St} (h : SimB B N σ τ q) (c : σ'.2 = σ.2 ∧ ∀ k, k ≠ 55 → σ'.1 k = σ.1 k) (m : τ'.2 = τ.2 ∧ ∀ k, k ≠ 43 → τ'.1 k = τ.1 k) : SimB B N σ' τ' q := by
  obtain ⟨h1, h2, h3, h4, h5, h6, h7, h8⟩ := h
  refine ⟨cor_fr h1 (fun a _ _ => c.2 a (by omega)) (by rw [c.1]) (fun a _ _ => m.2 a (by omega)) (fun j _ => by rw [m.2 0 (by omega)]) (by rw [m.1]), tp_fr h2 (c.2 10 (by omega)) (by rw [c.2 9 (by omega)]) (m.2 1 (by omega)) (by rw [m.2 0 (by omega)]), ou_fr h3 (c.2 63 (by omega)) (by rw [c.2 62 (by omega)]) (m.2 16 (by omega)) (by rw [m.2 0 (by omega)]), jo_fr h4 (c.2 37 (by omega)) (c.2 36 (by omega)) (m.2 15 (by omega)) (fun j _ _ => by rw [m.2 0 (by omega)]), fun s a b => sh_fr a b (h5 s a b) (fun a _ _ => c.2 a (by omega)) (by rw [c.2 36 (by omega)]) (fun a _ _ => m.2 a (by omega)), ?_, ?_, ?_⟩
  · rw [c.2 1 (by omega), m.2 0 (by omega)]; exact h6
  · rw [c.1, m.1]; exact h7
  · rw [m.2 20 (by omega)]; exact h8
theorem sim_rnd {N : NtT} {σ τ : St} (h : SimB B N σ τ q) (d : Int32) : SimB B N (seti σ 36 3 (σ.1 36 3 + d)) (seti τ 0 22 (τ.1 0 22 + d)) q := by
  obtain ⟨h1, h2, h3, ⟨n, m, jm, j0, j1, j2, j3, j4, j5, j6, j7, j8, j9, j10, j11, j12⟩, h5, h6, h7, h8⟩ := h
  refine ⟨cor_fr h1 (fun a _ _ => seti_r (by omega)) rfl (fun a _ _ => seti_r (by omega)) (fun j _ => by rw [seti1, if_neg (by omega)]) rfl, tp_fr h2 (seti_r (by omega)) (by rw [seti_r (by omega)]) (seti_r (by omega)) (by rw [seti1, if_neg (by omega)]), ou_fr h3 (seti_r (by omega)) (by rw [seti_r (by omega)]) (seti_r (by omega)) (by rw [seti1, if_neg (by omega)]), ⟨n, m, jm, j0, j1, ?_, ?_, ?_, j5, j6, ?_, ?_, ?_, ?_, ?_, ?_⟩, fun s a b => sh_fr a b (h5 s a b) (fun a _ _ => seti_r (by omega)) (by rw [seti1, if_neg (by omega)]) (fun a _ _ => seti_r (by omega)), ?_, h7, ?_⟩
  · rw [seti1, if_neg (by omega)]; exact j2
  · rw [seti1, if_neg (by omega)]; exact j3
  · rw [seti1, if_neg (by omega)]; exact j4
  · rw [seti1, if_neg (by omega)]; exact j7
  · rw [seti1, if_neg (by omega)]; exact j8
  · rw [seti1, if_pos ⟨rfl, rfl⟩, seti1, if_pos ⟨rfl, rfl⟩, j9]
  · rw [seti1, if_neg (by omega), seti1, if_neg (by omega)]; exact j10
  · rw [seti1, if_neg (by omega)]; exact j11
  · rw [seti_r (by omega), seti_r (by omega)]; exact j12
  · rw [seti_r (by omega), seti1, if_neg (by omega)]; exact h6
  · rw [seti_r (by omega)]; exact h8
theorem sim_rnd0 {N : NtT} {σ τ : St} (h : SimB B N σ τ q) : SimB B N σ (seti τ 0 22 (τ.1 0 22 + 0)) q := by
  have := sim_rnd h 0
  have e : seti σ 36 3 (σ.1 36 3 + 0) = σ := by
    refine Prod.ext ?_ rfl
    funext a b
    rw [seti1]
    by_cases w : a = 36 ∧ b = 3
    · rw [if_pos w, w.1, w.2, Int32.add_zero]
    · rw [if_neg w]
  rw [e] at this
  exact this
/-- a pair that no step has touched is alive still -/
theorem alv_kep (hK : KdV B) {N N' : NtT} {σ τ σ' τ' : St} {n m : Int} (hV : NetV B N) (hn : mate N n ≠ -1) (n0 : 0 ≤ n) (n1 : n < 400) (h : Kep N N' n (mate N n) σ τ σ' τ') (m0 : 0 ≤ m) (m1 : m < 400) (hm : 0 ≤ alv B N m) (h1 : m ≠ n) (h2 : m ≠ mate N n) : mate N' m = mate N m ∧ alv B N' m = alv B N m := by
  have hmm : mate N m ≠ -1 := fun e => by
    unfold alv at hm
    rw [if_pos e] at hm
    omega
  have pm : 0 ≤ mate N m ∧ mate N m < 400 ∧ 0 ≤ Nk N (mate N m) ∧ 0 ≤ Nk N m ∧ Nw N (5 * m) = 5 * mate N m := by
    rcases mate_b hK hV m0 m1 with w | w
    · exact absurd w hmm
    · exact w
  have pn : 0 ≤ mate N n ∧ mate N n < 400 ∧ 0 ≤ Nk N (mate N n) ∧ 0 ≤ Nk N n ∧ Nw N (5 * n) = 5 * mate N n := by
    rcases mate_b hK hV n0 n1 with w | w
    · exact absurd w hn
    · exact w
  have bm := (hV.2.2.2 _ (liv_head hK hV m0 m1 pm.2.2.2.1)).2.1
  have bn := (hV.2.2.2 _ (liv_head hK hV n0 n1 pn.2.2.2.1)).2.1
  rw [pm.2.2.2.2] at bm
  rw [pn.2.2.2.2] at bn
  have e1 : mate N m ≠ n := fun e => by
    rw [e, pn.2.2.2.2] at bm
    omega
  have e2 : mate N m ≠ mate N n := fun e => by
    rw [e, bn] at bm
    omega
  have k1 := h.1 m m0 m1 h1 h2 pm.2.2.2.1
  have k2 := h.1 (mate N m) pm.1 pm.2.1 e1 e2 pm.2.2.1
  have kw := k1.2 (by rw [pm.2.2.2.2]; omega) (by rw [pm.2.2.2.2]; omega)
  have emate : mate N' m = mate N m := by
    unfold mate
    rw [k1.1, kw]
  refine ⟨emate, ?_⟩
  unfold alv
  rw [emate, k1.1, k2.1]
theorem s_round (hF : 10000 ≤ F) (hq : q < 2147400000) {n m : Int} (n1 : n ≤ 3000) (m0 : 0 ≤ m) (m1 : m ≤ 200) {L : Int → Int} (hinc : ∀ i j, 0 ≤ i → i < j → j < m → L i < L j) (x3 : Int32) (k0 : Int32 × St → Option (Int32 × St)) : ∀ (fu : Nat) (i v : Int) (N : NtT) (σ τ : St), 0 ≤ i → i ≤ m → 0 ≤ v → v ≤ n → m - i + 1 < fu → SimB B N σ τ (q + v) → σ.1 36 4 = 0 → (∀ j, 0 ≤ j → j < m → σ.1 55 j.toNat = I (L j) ∧ τ.1 43 j.toNat = I (L j) ∧ 0 ≤ L j ∧ L j < 400) → (∀ j, i ≤ j → j < m → 0 ≤ alv B N (L j) ∧ L j < mate N (L j)) → (∃ N' σ' τ' v', v ≤ v' ∧ v' ≤ n ∧ (i < m → v < n → v < v') ∧ f_X11_runRounds_L52 F (I n) x3 (I m) k0 kcr fu (I v) (I i) σ = k0 (I v', σ') ∧ f_X12_runRounds_L87 F (I n) (I m) fu (I v) (I 1) (I i) τ = some (I v', I 1, τ') ∧ SimB B N' σ' τ' (q + v') ∧ σ'.1 36 4 = 0) ∨ ∃ N' σ' τ' v', f_X11_runRounds_L52 F (I n) x3 (I m) k0 kcr fu (I v) (I i) σ = some (I v', σ') ∧ f_X12_runRounds_L87 F (I n) (I m) fu (I v) (I 1) (I i) τ = some (I v', 0, τ') ∧ SimB B N' σ' τ' (q + 3000) := by
  intro fu
  induction fu with
  | zero => intro i v N σ τ a b c d e; omega
  | succ fu ih =>
    intro i v N σ τ i0 i1 v0 v1 hf hS h0 hL hA
    obtain ⟨hK, hR, hV, hBC, hBM, hNC, hNM⟩ := id hS.1
    rw [f_X11_runRounds_L52, f_X12_runRounds_L87]
    by_cases hc : i < m ∧ v < n
    · have c1 : I i < I m := (I_lt (by omega) (by omega) (by omega) (by omega)).mpr hc.1
      have c2 : I v < I n := (I_lt (by omega) (by omega) (by omega) (by omega)).mpr hc.2
      have in4 : inb (I i) 400 = true := (I_inb (by omega) (by omega)).mpr ⟨by omega, by omega⟩
      have in2 : inb (I i) 200 = true := (I_inb (by omega) (by omega)).mpr ⟨by omega, by omega⟩
      have ixi : ix (I i) = i.toNat := I_ix (by omega) (by omega)
      obtain ⟨l1, l2, l3, l4⟩ := hL i i0 hc.1
      obtain ⟨al, alm⟩ := hA i (Int.le_refl _) hc.1
      have c4 : I i < (400 : Int32) := (I_lt (b := 400) (by omega) (by omega) (by omega) (by omega)).mpr (by omega)
      rw [if_pos ⟨c1, c4, c2⟩, if_pos in4, ixi, l1, if_pos ⟨c1, i01, c2⟩, if_pos in2, if_pos in2, l2, m_facing hK hV hNM l3 l4, Option.bind_some]
      rcases s_step hS hF (by omega) l3 l4 al with ⟨e1, e2⟩ | ⟨N', σ2, τ2, e1, e2, e3, e4⟩
      · right
        refine ⟨N, seti σ 36 4 1, seti τ 0 23 1, v, ?_, ?_, simb_mono (sim_crowd hS (Or.inr rfl)) (by omega)⟩
        · rw [e1, Option.bind_some, if_pos rfl]
          rfl
        · obtain ⟨fu', hfu'⟩ : ∃ fu', fu = fu' + 1 := ⟨fu - 1, by omega⟩
          rw [e2, Option.bind_some, if_pos rfl, Option.bind_some, Option.bind_some, if_pos rfl, Option.bind_some, Option.bind_some, hfu', f_X12_runRounds_L87, if_neg (fun w => w.2.1 rfl)]
          rw [show I v + (0 : Int32) = I v from Int32.add_zero _]
      · have h36 : σ2.1 36 4 = 0 := by rw [e4.2.2.2.2.1]; exact h0
        have hs2 := sim_crowd0 e3 (Or.inl rfl) h36
        rw [show q + v + 1 = q + (v + 1) by omega] at hs2
        have next := ih (i + 1) (v + 1) N' σ2 (seti τ2 0 23 0) (by omega) (by omega) (by omega) (by omega) (by omega) hs2 h36 (fun j j0 j1 => by
          have := hL j j0 j1
          rw [e4.2.1, seti_r (by omega), e4.2.2.1]
          exact this) (fun j j0 j1 => by
          obtain ⟨y1, y2⟩ := hA j (by omega) j1
          have hlt := hinc i j i0 (by omega) j1
          obtain ⟨_, _, p3, p4⟩ := hL j (by omega) j1
          have hne2 : L j ≠ mate N (L i) := fun e => by
            have hmi : mate N (L i) ≠ -1 := by omega
            rcases mate_b hK hV l3 l4 with w | ⟨w1, w2, w3, w4, w5⟩
            · exact hmi w
            · have := (hV.2.2.2 _ (liv_head hK hV l3 l4 w4)).2.1
              rw [w5, ← e] at this
              rcases mate_b hK hV p3 p4 with z | ⟨z1, z2, z3, z4, z5⟩
              · omega
              · rw [z5] at this; omega
          have hk := alv_kep (B := B) hK hV (by omega) l3 l4 e4 p3 p4 y1 (by omega) hne2
          rw [hk.1, hk.2]
          exact ⟨y1, y2⟩)

        rw [e1, e2, Option.bind_some, if_neg i01, Option.bind_some, show (1 : Int32) = I 1 from rfl, I_add, I_add]
        rcases next with ⟨N3, σ3, τ3, v3, y1, y2, y3, y4, y5, y6, y7⟩ | ⟨N3, σ3, τ3, v3, y4, y5, y6⟩
        · left
          refine ⟨N3, σ3, τ3, v3, by omega, y2, fun _ _ => by omega, y4, ?_, y6, y7⟩
          rw [Option.bind_some, if_neg (show ¬ ((I 1, τ2).1 = (0 : Int32)) from (by decide : ¬ (I 1 = (0 : Int32)))), Option.bind_some, Option.bind_some, if_neg (show ¬ ((I 1, τ2).1 = (0 : Int32)) from (by decide : ¬ (I 1 = (0 : Int32)))), Option.bind_some, Option.bind_some, I_add]
          exact y5
        · right
          refine ⟨N3, σ3, τ3, v3, y4, ?_, y6⟩
          rw [Option.bind_some, if_neg (show ¬ ((I 1, τ2).1 = (0 : Int32)) from (by decide : ¬ (I 1 = (0 : Int32)))), Option.bind_some, Option.bind_some, if_neg (show ¬ ((I 1, τ2).1 = (0 : Int32)) from (by decide : ¬ (I 1 = (0 : Int32)))), Option.bind_some, Option.bind_some, I_add]
          exact y5
    · have nc1 : ¬ (I i < I m ∧ I v < I n) := fun w => hc ⟨(I_lt (by omega) (by omega) (by omega) (by omega)).mp w.1, (I_lt (by omega) (by omega) (by omega) (by omega)).mp w.2⟩
      have nc4 : ¬ (I i < I m ∧ I i < (400 : Int32) ∧ I v < I n) := fun w => nc1 ⟨w.1, w.2.2⟩
      rw [if_neg nc4, if_neg (fun w => nc1 ⟨w.1, w.2.2⟩)]
      exact Or.inl ⟨N, σ, τ, v, Int.le_refl _, v1, fun a b => absurd ⟨a, b⟩ hc, rfl, rfl, hS, h0⟩
theorem s_rounds (hF : 10000 ≤ F) (hq : q < 2147400000) {n : Int} (n0 : 0 ≤ n) (n1 : n ≤ 3000) : ∀ (fu : Nat) (v rd : Int) (N : NtT) (σ τ : St), 0 ≤ v → v ≤ n → 0 ≤ rd → rd ≤ v → n - v + 1 < fu → SimB B N σ τ (q + v) → σ.1 36 4 = 0 → ∃ N' σ' τ' r, f_X11_runRounds_L4 F (I n) kcr fu (I v) (I rd) σ = some (r, σ') ∧ f_X12_runRounds_L4 F (I n) fu (I v) (I 1) τ = some (r, τ') ∧ SimB B N' σ' τ' (q + 3000) := by
  intro fu
  induction fu with
  | zero => intro v rd N σ τ a b c d e; omega
  | succ fu ih =>
    intro v rd N σ τ v0 v1 r0 r1 hf hS h0
    rw [f_X11_runRounds_L4, f_X12_runRounds_L4]
    by_cases hv : v = n
    · have hl : ¬ (I v < I n) := by rw [hv]; exact Int32.lt_irrefl
      rw [if_neg (fun w => hl w.2), if_pos (Or.inr hl)]
      exact ⟨N, σ, τ, _, rfl, rfl, simb_mono hS (by omega)⟩
    · have hl : I v < I n := (I_lt (by omega) (by omega) (by omega) (by omega)).mpr (by omega)
      have hr : I rd < (3000 : Int32) := (I_lt (b := 3000) (by omega) (by omega) (by omega) (by omega)).mpr (by omega)
      have hc : ¬ (I 1 = (0 : Int32) ∨ ¬ (I v < I n)) := fun w => by
        rcases w with w | w
        · exact absurd w (by decide)
        · exact w hl
      obtain ⟨m, σ1, τ1, L, a1, a2, a3, a4, a5, a6, a7, a8⟩ := s_list hS hF (I n) (I v)
      have hS1 := sim_rows hS a5 a6
      obtain ⟨fu', hfu'⟩ : ∃ fu', fu = fu' + 1 := ⟨fu - 1, by omega⟩
      obtain ⟨F', hF'⟩ : ∃ F', F = F' + 1 := ⟨F - 1, by omega⟩
      by_cases hm : m = 0
      · refine ⟨N, σ1, seti τ1 0 22 (τ1.1 0 22 + 0), I v, ?_, ?_, simb_mono (sim_rnd0 hS1) (by omega)⟩
        · rw [if_pos ⟨hr, hl⟩, a1, Option.bind_some, if_pos (show (I m, σ1).1 = (0 : Int32) from by rw [hm]; rfl)]
        · rw [if_neg hc, a2, Option.bind_some, if_neg (show ¬ ((0 : Int32) < (I m, τ1).1) from by rw [hm]; exact Int32.lt_irrefl), Option.bind_some, if_pos rfl, Option.bind_some, Option.bind_some]
          have e87 : ∀ (x : Int32) (g : St), f_X12_runRounds_L87 F (I n) x F (I v) (0 : Int32) (0 : Int32) g = some (I v, 0, g) := fun x g => by
            conv => lhs; rw [hF']
            rw [f_X12_runRounds_L87, if_neg (fun w => w.2.1 rfl)]
          rw [e87, Option.bind_some, hfu', f_X12_runRounds_L4, if_pos (Or.inl rfl)]
      · have hm1 : ¬ ((I m, σ1).1 = (0 : Int32)) := fun w => hm ((I_eq (by omega) (by omega) (by omega) (by omega)).mp (show I m = I 0 from w))
        have hm2 : (0 : Int32) < (I m, τ1).1 := (I_lt (a := 0) (by omega) (by omega) (by omega) (by omega)).mpr (by omega)
        have hS2 := sim_rnd hS1 1
        obtain ⟨hK, hR, hV, _⟩ := id hS.1
        have h36 : (seti σ1 36 3 (σ1.1 36 3 + 1)).1 36 4 = 0 := by rw [seti1, if_neg (by omega), a5.2 36 (by omega)]; exact h0
        have key := s_round (B := B) (F := F) hF hq (n := n) (m := m) n1 a3 a4 (L := L) a8 (I rd) (fun t18 => f_X11_runRounds_L4 F (I n) kcr fu t18.1 (I rd + 1) t18.2) F 0 v N (seti σ1 36 3 (σ1.1 36 3 + 1)) (seti τ1 0 22 (τ1.1 0 22 + 1)) (by omega) a3 v0 v1 (by omega) hS2 h36 (fun j j0 j1 => by
          have := a7 j j0 j1
          rw [seti_r (by omega), seti_r (by omega)]
          exact ⟨this.1, this.2.1, this.2.2.1, this.2.2.2.1⟩) (fun j j0 j1 => by
          have := (a7 j j0 j1).2.2.2.2
          refine ⟨prs_alv hK hV this, ?_⟩
          unfold prs at this
          simp only [Bool.and_eq_true, decide_eq_true_eq] at this
          exact this.1)
        have ek : (fun t19 : Int32 × St => kcr (t19.1, t19.2)) = kcr := rfl
        rcases key with ⟨N', σ', τ', v', y1, y2, y3, y4, y5, y6, y7⟩ | ⟨N', σ', τ', v', y4, y5, y6⟩
        · have hvv := y3 (by omega) (by omega)
          obtain ⟨N3, σ3, τ3, r, z1, z2, z3⟩ := ih v' (rd + 1) N' σ' τ' (by omega) y2 (by omega) (by omega) (by omega) y6 y7
          refine ⟨N3, σ3, τ3, r, ?_, ?_, z3⟩
          · rw [if_pos ⟨hr, hl⟩, a1, Option.bind_some, if_neg hm1, Option.bind_some, ek]
            have y4' : f_X11_runRounds_L52 F (I n) (I rd) (I m) (fun t18 => f_X11_runRounds_L4 F (I n) kcr fu t18.1 (I rd + 1) t18.2) kcr F (I v) (0 : Int32) (seti σ1 36 3 (σ1.1 36 3 + 1)) = f_X11_runRounds_L4 F (I n) kcr fu (I v') (I rd + 1) σ' := y4
            rw [y4', show (1 : Int32) = I 1 from rfl, I_add]
            exact z1
          · rw [if_neg hc, a2, Option.bind_some, if_pos hm2, Option.bind_some, if_neg i01, Option.bind_some, Option.bind_some]
            have y5' : f_X12_runRounds_L87 F (I n) (I m) F (I v) (1 : Int32) (0 : Int32) (seti τ1 0 22 (τ1.1 0 22 + 1)) = some (I v', I 1, τ') := y5
            rw [y5', Option.bind_some]
            exact z2
        · refine ⟨N', σ', τ', I v', ?_, ?_, y6⟩
          · rw [if_pos ⟨hr, hl⟩, a1, Option.bind_some, if_neg hm1, Option.bind_some, ek]
            exact y4
          · rw [if_neg hc, a2, Option.bind_some, if_pos hm2, Option.bind_some, if_neg i01, Option.bind_some, Option.bind_some]
            have y5' : f_X12_runRounds_L87 F (I n) (I m) F (I v) (1 : Int32) (0 : Int32) (seti τ1 0 22 (τ1.1 0 22 + 1)) = some (I v', 0, τ') := y5
            rw [y5', Option.bind_some, hfu', f_X12_runRounds_L4, if_pos (Or.inl rfl)]
theorem op_run {σ τ : St} (h : Sim σ τ q) (hF : 10000 ≤ F) (hq : q < 2147400000) (p1 p2 : Int32) : Op (f_X11_run F p1 p2 σ) (f_X12_run F p1 p2 τ) (q + 3000) := by
  have hS := sim_mono h (show q ≤ q + 3000 by omega)
  obtain ⟨B, N, h⟩ := h
  have h' : SimB B N σ τ q := h
  obtain ⟨z, rfl, z1, z2⟩ := I_ex p1
  obtain ⟨y, rfl, y1, y2⟩ := I_ex p2
  unfold f_X11_run f_X12_run
  rw [x12_in, x12_in]
  simp only [x64, Int32.toInt_toInt64, I_toInt z1 z2, I_toInt y1 y2]
  by_cases hc : (0 ≤ z ∧ z ≤ 3) ∧ (0 ≤ y ∧ y ≤ 3000)
  · have c1 : (0 : Int32) ≤ I z ∧ I z ≤ (3 : Int32) ∧ (0 : Int32) ≤ I y ∧ ¬ ((3000 : Int32) < I y) := by
      refine ⟨(I_le (a := 0) (by omega) (by omega) (by omega) (by omega)).mpr hc.1.1, (I_le (b := 3) (by omega) (by omega) (by omega) (by omega)).mpr hc.1.2, (I_le (a := 0) (by omega) (by omega) (by omega) (by omega)).mpr hc.2.1, ?_⟩
      rw [show (3000 : Int32) = I 3000 from rfl, I_lt (by omega) (by omega) (by omega) (by omega)]; omega
    have hS0 := sim_crowd h' (Or.inl rfl : (0 : Int32) = 0 ∨ (0 : Int32) = 1)
    have h36 : (seti σ 36 4 0).1 36 4 = 0 := by rw [seti1, if_pos ⟨rfl, rfl⟩]
    rw [show q = q + 0 by omega] at hS0
    have hno : ¬ ((1 : Int32) = 0 ∨ (1 : Int32) = 0) := by decide
    rw [if_pos c1, Option.bind_some, if_pos hc.1, if_pos hc.2, Option.bind_some, if_neg hno, Option.bind_some]
    by_cases hz : z = 2
    · have e2 : I z = (2 : Int32) := by rw [hz]; rfl
      obtain ⟨N', σ', τ', r, d1, d2, d3⟩ := s_rounds (B := B) (F := F) hF hq (n := y) hc.2.1 hc.2.2 F 0 0 N _ _ (by omega) hc.2.1 (by omega) (by omega) (by omega) hS0 h36
      have d1' : f_X11_runRounds F (I y) (seti σ 36 4 0) = some (r, σ') := by
        unfold f_X11_runRounds
        exact d1
      have d2' : f_X12_runRounds F (I y) (seti τ 0 23 0) = some (r, τ') := by
        unfold f_X12_runRounds
        rw [show f_X12_runRounds_L4 F (I y) F (0 : Int32) (1 : Int32) (seti τ 0 23 0) = some (r, τ') from d2]
        rfl
      rw [if_pos e2, if_pos e2, d1', d2']
      exact ⟨r, σ', τ', rfl, rfl, B, N', d3⟩
    · have e2 : ¬ (I z = (2 : Int32)) := fun w => hz ((I_eq (by omega) (by omega) (by omega) (by omega)).mp (show I z = I 2 from w))
      obtain ⟨N', σ', τ', r, d1, d2, d3⟩ := s_single (B := B) (F := F) hF hq (od := z) (n := y) (by omega) hc.2.2 F 0 N _ _ (by omega) hc.2.1 (by omega) hS0 h36
      have d1' : f_X11_runSingly F (I z) (I y) (seti σ 36 4 0) = some (r, σ') := by
        unfold f_X11_runSingly
        exact d1
      have d2' : f_X12_run_L49 F (I z) (I y) F (0 : Int32) (1 : Int32) (seti τ 0 23 0) = some (r, τ') := d2
      rw [if_neg e2, if_neg e2, d1', d2']
      exact ⟨r, σ', τ', rfl, rfl, B, N', d3⟩
  · have c1 : ¬ ((0 : Int32) ≤ I z ∧ I z ≤ (3 : Int32) ∧ (0 : Int32) ≤ I y ∧ ¬ ((3000 : Int32) < I y)) := fun w => hc (by
      have w1 := (I_le (a := 0) (by omega) (by omega) (by omega) (by omega)).mp w.1
      have w2 := (I_le (b := 3) (by omega) (by omega) (by omega) (by omega)).mp w.2.1
      have w3 := (I_le (a := 0) (by omega) (by omega) (by omega) (by omega)).mp w.2.2.1
      have w4 := w.2.2.2
      rw [show (3000 : Int32) = I 3000 from rfl, I_lt (by omega) (by omega) (by omega) (by omega)] at w4
      omega)
    rw [if_neg c1, Option.bind_some]
    by_cases hz : 0 ≤ z ∧ z ≤ 3
    · rw [if_pos hz, if_neg (fun w => hc ⟨hz, w⟩), if_pos (Or.inr rfl)]
      exact ⟨_, _, _, rfl, rfl, hS⟩
    · rw [if_neg hz, if_pos (Or.inl rfl)]
      exact ⟨_, _, _, rfl, rfl, hS⟩
end RU3
