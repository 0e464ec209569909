/-! step, run by an order -/
section RUN
variable {B : BkT} {N : NtT} {σ τ : St} {q : Int} {F : Nat}
theorem nth_spec {p : Int → Bool} : ∀ (m : Nat) (a k : Int), nth p m a k = -1 ∨ (k ≤ nth p m a k ∧ nth p m a k < k + m ∧ p (nth p m a k) = true)
  | 0, _, _ => Or.inl rfl
  | m + 1, a, k => by
    rw [nth]
    by_cases h : p k = true
    · rw [if_pos h]
      by_cases ha : a = 0
      · rw [if_pos ha]
        exact Or.inr ⟨by omega, by omega, h⟩
      · rw [if_neg ha]
        rcases nth_spec m (a - 1) (k + 1) with w | w
        · exact Or.inl w
        · exact Or.inr ⟨by omega, by omega, w.2.2⟩
    · rw [if_neg h]
      rcases nth_spec (p := p) m a (k + 1) with w | w
      · exact Or.inl w
      · exact Or.inr ⟨by omega, by omega, w.2.2⟩
theorem nth_at {p : Int → Bool} {g : Nat} (hg : p g = true) : ∀ (m k : Nat), k ≤ g → g < k + m → nth p m (cnt p g - cnt p k) k = g
  | 0, k, a, b => by omega
  | m + 1, k, a, b => by
    rw [nth]
    by_cases e : k = g
    · subst e
      rw [if_pos hg, if_pos (by omega)]
    · have ih := nth_at hg m (k + 1) (by omega) (by omega)
      have mono : ∀ d, cnt p (k + 1) ≤ cnt p (k + 1 + d) := by
        intro d
        induction d with
        | zero => exact Int.le_refl _
        | succ d ihd =>
          have e : cnt p (k + 1 + (d + 1)) = cnt p (k + 1 + d) + if p ((k + 1 + d : Nat) : Int) then 1 else 0 := rfl
          rw [e]
          split <;> omega
      have hm := mono (g - (k + 1))
      rw [show k + 1 + (g - (k + 1)) = g by omega] at hm
      rw [cnt] at ih hm
      by_cases h : p k = true
      · rw [if_pos h] at ih hm
        rw [if_pos h, if_neg (by omega), show cnt p g - cnt p k - 1 = cnt p g - (cnt p k + 1) by omega]
        exact ih
      · rw [if_neg h] at ih
        rw [if_neg h, show cnt p g - cnt p k = cnt p g - (cnt p k + 0) by omega]
        exact ih
theorem c_greatest (hK : KdV B) (hR : RuV B) (hV : NetV B N) (hB : BkC B σ 64) (hC : NtC B N σ 77) (hF : 10000 ≤ F) : f_X0_greatestAlivePair F σ = some (I (if cnt (prs B N true) 400 = 0 then -1 else nth (prs B N true) 400 (cnt (prs B N true) 400 - 1) 0)) := by
  unfold f_X0_greatestAlivePair
  obtain ⟨t, t0, t1, t2, t3⟩ := hC.2.2.2.2.2.2
  have loop : ∀ (n : Nat) (v : Int), -1 ≤ v → v < 400 → v + 1 < n → (∀ x, v < x → x < 400 → prs B N true x = false) → f_X0_greatestAlivePair_L10 F σ n (I v) = some (I (if cnt (prs B N true) 400 = 0 then -1 else nth (prs B N true) 400 (cnt (prs B N true) 400 - 1) 0)) := by
    intro n
    induction n with
    | zero => intro v a b c; omega
    | succ n ih =>
      intro v a b c d
      rw [f_X0_greatestAlivePair_L10]
      by_cases hv : 0 ≤ v
      · have e : f_X0_isPair (I v) (I 1) σ = some (I (if prs B N true v = true then 1 else 0)) := c_isPair hK hR hV hB hC (n := v) (by omega) (by omega) true
        simp (maxSteps := 4000000) (disch := omega) only [I_lits, nz, nc, if_pos, if_neg, if_true, if_false, Option.bind_some, true_and, and_true, and_self, or_true, true_or, or_false, false_or, not_true_eq_false, not_false_eq_true, false_and, and_false, Bool.false_eq_true, decide_true, decide_false, eq_self, hv, e]
        by_cases hp : prs B N true v = true
        · simp (maxSteps := 4000000) (disch := omega) only [I_lits, nz, nc, if_pos, if_neg, if_true, if_false, Option.bind_some, true_and, and_true, and_self, or_true, true_or, or_false, false_or, not_true_eq_false, not_false_eq_true, false_and, and_false, Bool.false_eq_true, decide_true, decide_false, eq_self, hp, i01]
          have hcv : cnt (prs B N true) 400 = cnt (prs B N true) v.toNat + 1 := by
            rw [← cnt_top 400 (v.toNat + 1) (by omega) (fun i x y => d i (by omega) (by omega)), cnt, show ((v.toNat : Nat) : Int) = v by omega, if_pos hp]
          have hb := cnt_b (prs B N true) v.toNat
          have := nth_at (p := prs B N true) (g := v.toNat) (by rw [show ((v.toNat : Nat) : Int) = v by omega]; exact hp) 400 0 (by omega) (by omega)
          rw [if_neg (by omega), show cnt (prs B N true) 400 - 1 = cnt (prs B N true) v.toNat - cnt (prs B N true) 0 by rw [hcv]; show _ = _ - 0; omega]
          rw [show ((0 : Nat) : Int) = 0 from rfl, show ((v.toNat : Nat) : Int) = v by omega] at this
          rw [this]
        · simp (maxSteps := 4000000) (disch := omega) only [I_lits, nz, nc, if_pos, if_neg, if_true, if_false, Option.bind_some, true_and, and_true, and_self, or_true, true_or, or_false, false_or, not_true_eq_false, not_false_eq_true, false_and, and_false, Bool.false_eq_true, decide_true, decide_false, eq_self, hp]
          rw [show v + -1 = v - 1 by omega]
          exact ih (v - 1) (by omega) (by omega) (by omega) (fun x x1 x2 => by
            by_cases e : x = v
            · rw [e]; exact Bool.eq_false_iff.mpr hp
            · exact d x (by omega) x2)
      · simp (maxSteps := 4000000) (disch := omega) only [I_lits, nz, nc, if_pos, if_neg, if_true, if_false, Option.bind_some, true_and, and_true, and_self, or_true, true_or, or_false, false_or, not_true_eq_false, not_false_eq_true, false_and, and_false, Bool.false_eq_true, decide_true, decide_false, eq_self, hv]
        have hz : cnt (prs B N true) 400 = 0 := by
          rw [← cnt_top 400 0 (by omega) (fun i x y => d i (by omega) (by omega))]
          rfl
        rw [if_pos hz]
  rw [Option.bind_some, t2, show (1 : Int32) = I 1 from rfl, I_sub]
  exact loop F (t - 1) (by omega) (by omega) (by omega) (fun x x1 x2 => prs_top hK hV (by omega) (t3 x (by omega) x2))
theorem prs_alv (hK : KdV B) (hV : NetV B N) {n : Int} (h : prs B N true n = true) : 0 ≤ alv B N n := by
  unfold prs at h
  simp only [Bool.and_eq_true, beq_true, decide_eq_true_eq] at h
  exact h.2
/-- which pair goes next -/
theorem s_choose (h : SimB B N σ τ q) (hF : 10000 ≤ F) {od : Int} (od0 : od = 0 ∨ od = 1 ∨ od = 3) : ∃ a σ' τ', f_X11_choosePair F (I od) σ = some (I a, σ') ∧ f_X12_chosen F (I od) τ = some (I a, τ') ∧ SimB B N σ' τ' q ∧ (a = -1 ∨ (0 ≤ a ∧ a < 400 ∧ 0 ≤ alv B N a)) ∧ σ'.1 = σ.1 ∧ τ'.1 = τ.1 := by
  obtain ⟨hCor, h2, h3, h4, h5, h6, h7, h8⟩ := id h
  obtain ⟨hK, hR, hV, hBC, hBM, hNC, hNM⟩ := id hCor
  have hcb := cnt_b (prs B N true) 400
  have ok : ∀ a, nth (prs B N true) 400 a 0 = -1 ∨ (0 ≤ nth (prs B N true) 400 a 0 ∧ nth (prs B N true) 400 a 0 < 400 ∧ 0 ≤ alv B N (nth (prs B N true) 400 a 0)) := fun a => by
    rcases nth_spec (p := prs B N true) 400 a 0 with w | w
    · exact Or.inl w
    · exact Or.inr ⟨w.1, by omega, prs_alv hK hV w.2.2⟩
  have mp : f_X12_pairs F (1 : Int32) τ = some (I (cnt (prs B N true) 400)) := m_pairs hK hR hV hBM hNM true hF
  have cp : f_X0_countPairs F (1 : Int32) σ = some (I (cnt (prs B N true) 400)) := c_countPairs hK hR hV hBC hNC true hF
  have none0 : cnt (prs B N true) 400 = 0 → ∀ a, nth (prs B N true) 400 a 0 = -1 := by
    intro hz a
    rcases nth_spec (p := prs B N true) 400 a 0 with w | w
    · exact w
    · exfalso
      have := cnt_one (p := fun x => prs B N true x && decide (x ≠ nth (prs B N true) 400 a 0)) (q := prs B N true) (a := nth (prs B N true) 400 a 0) 400 w.1 (fun i _ _ e => by simp [e]) (by simp) w.2.2
      rw [hz, if_pos (by omega)] at this
      have hb := cnt_b (fun x => prs B N true x && decide (x ≠ nth (prs B N true) 400 a 0)) 400
      omega
  have cp0 : f_X0_alivePairAt F (0 : Int32) σ = some (I (nth (prs B N true) 400 0 0)) := c_pair hK hR hV hBC hNC hF (a := 0) (by omega) (by omega)
  have mp0 : f_X12_pair F (0 : Int32) τ = some (I (nth (prs B N true) 400 0 0)) := m_pair hK hR hV hBM hNM hF (a := 0) (by omega) (by omega)
  unfold f_X11_choosePair f_X12_chosen
  rw [mp, Option.bind_some]
  by_cases hz : cnt (prs B N true) 400 = 0
  · have e0 : I (cnt (prs B N true) 400) = (0 : Int32) := by rw [hz]; rfl
    rw [if_pos e0]
    rcases od0 with rfl | rfl | rfl
    · rw [if_pos (by rfl), cp0, Option.bind_some, none0 hz]
      exact ⟨-1, σ, τ, rfl, rfl, h, Or.inl rfl, rfl, rfl⟩
    · rw [if_neg (by decide), if_pos (by rfl), c_greatest hK hR hV hBC hNC hF, Option.bind_some, if_pos hz]
      exact ⟨-1, σ, τ, rfl, rfl, h, Or.inl rfl, rfl, rfl⟩
    · rw [if_neg (by decide), if_neg (by decide), cp, Option.bind_some, e0, if_pos (by decide)]
      exact ⟨-1, σ, τ, rfl, rfl, h, Or.inl rfl, rfl, rfl⟩
  · have e0 : ¬ (I (cnt (prs B N true) 400) = (0 : Int32)) := fun w => hz ((I_eq (by omega) (by omega) (by omega) (by omega)).mp (show I (cnt (prs B N true) 400) = I 0 from w))
    rw [if_neg e0]
    rcases od0 with rfl | rfl | rfl
    · rw [if_pos (by rfl), cp0, Option.bind_some, if_neg (by decide), Option.bind_some, if_pos (by rfl), Option.bind_some, mp0]
      exact ⟨_, σ, τ, rfl, rfl, h, ok _, rfl, rfl⟩
    · rw [if_neg (by decide), if_pos (by rfl), c_greatest hK hR hV hBC hNC hF, Option.bind_some, if_neg hz, if_neg (by decide), Option.bind_some, if_neg (by decide), if_pos (by rfl), Option.bind_some, show (1 : Int32) = I 1 from rfl, I_sub, m_pair hK hR hV hBM hNM hF (by omega) (by omega)]
      exact ⟨_, σ, τ, rfl, rfl, h, ok _, rfl, rfl⟩
    · have e0' : ¬ (I (cnt (prs B N true) 400) ≤ (0 : Int32)) := by
        rw [show (0 : Int32) = I 0 from rfl, I_le (by omega) (by omega) (by omega) (by omega)]; omega
      have e64 : ¬ ((I (cnt (prs B N true) 400)).toInt64 = 0) := fun w => by
        have := congrArg Int64.toInt w
        rw [Int32.toInt_toInt64, I_toInt (by omega) (by omega)] at this
        have z : (0 : Int64).toInt = 0 := rfl
        rw [z] at this
        exact hz this
      rw [if_neg (by decide), if_neg (by decide), cp, Option.bind_some, if_neg e0', Option.bind_some, if_pos e64, if_pos (by rfl), Option.bind_some, Option.bind_some, if_neg (by decide), if_neg (by decide), if_pos e64, Option.bind_some]
      have ed : (setl σ 0 9 ((σ.2 0 9) * (6364136223846793005 : Int64) + (1442695040888963407 : Int64))).2 0 9 = (setl τ 0 24 ((τ.2 0 24) * (6364136223846793005 : Int64) + (1442695040888963407 : Int64))).2 0 24 := by
        rw [setl2, setl2, if_pos ⟨rfl, rfl⟩, if_pos ⟨rfl, rfl⟩, h7]
      rw [ed]
      obtain ⟨z, ez, z1, z2⟩ := I_ex (((((setl τ 0 24 ((τ.2 0 24) * (6364136223846793005 : Int64) + (1442695040888963407 : Int64))).2 0 24).toUInt64 >>> ((33 : Int32).toInt64.toUInt64 &&& Int64.toUInt64 63)).toInt64) - ((((setl τ 0 24 ((τ.2 0 24) * (6364136223846793005 : Int64) + (1442695040888963407 : Int64))).2 0 24).toUInt64 >>> ((33 : Int32).toInt64.toUInt64 &&& Int64.toUInt64 63)).toInt64) / ((I (cnt (prs B N true) 400)).toInt64) * ((I (cnt (prs B N true) 400)).toInt64)).toInt32
      rw [ez]
      have hBC1 : BkC B (setl σ 0 9 ((σ.2 0 9) * (6364136223846793005 : Int64) + (1442695040888963407 : Int64))) 64 := bkc_fr hBC (fun _ _ _ => rfl) (setl_r (by omega))
      have hNC1 : NtC B N (setl σ 0 9 ((σ.2 0 9) * (6364136223846793005 : Int64) + (1442695040888963407 : Int64))) 77 := ntc_fr hNC (fun _ _ _ => rfl)
      have hBM1 : BkM B (setl τ 0 24 ((τ.2 0 24) * (6364136223846793005 : Int64) + (1442695040888963407 : Int64))) := bkm_fr hBM (fun _ _ _ => rfl) (fun _ _ => rfl) (setl_r (by omega))
      have hNM1 : NtM B N (setl τ 0 24 ((τ.2 0 24) * (6364136223846793005 : Int64) + (1442695040888963407 : Int64))) := ntm_fr hNM (fun _ _ _ => rfl) (fun _ _ => rfl)
      rw [c_pair hK hR hV hBC1 hNC1 hF z1 z2, m_pair hK hR hV hBM1 hNM1 hF z1 z2]
      refine ⟨_, _, _, rfl, rfl, ⟨⟨hK, hR, hV, hBC1, hBM1, hNC1, hNM1⟩, tp_fr h2 rfl rfl rfl rfl, ou_fr h3 rfl rfl rfl rfl, jo_fr h4 rfl rfl rfl (fun _ _ _ => rfl), fun s a b => sh_fr a b (h5 s a b) (fun _ _ _ => rfl) rfl (fun _ _ _ => rfl), h6, ed, h8⟩, ok z, rfl, rfl⟩
/-- the flag of the latest run -/
theorem sim_crowd (h : SimB B N σ τ q) {v : Int32} (hv : v = 0 ∨ v = 1) : SimB B N (seti σ 36 4 v) (seti τ 0 23 v) q := by
  obtain ⟨h1, h2, h3, ⟨n, m, jm, j0, j1, j2, j3, j4, j5, j6, j7, j8, j9, j10, j11, j12⟩, h5, h6, h7, h8⟩ := h
  refine ⟨cor_fr h1 (fun a _ _ => seti_r (by omega)) rfl (fun a _ _ => seti_r (by omega)) (fun j _ => by rw [seti1, if_neg (by omega)]) rfl, tp_fr h2 (seti_r (by omega)) (by rw [seti_r (by omega)]) (seti_r (by omega)) (by rw [seti1, if_neg (by omega)]), ou_fr h3 (seti_r (by omega)) (by rw [seti_r (by omega)]) (seti_r (by omega)) (by rw [seti1, if_neg (by omega)]), ⟨n, m, jm, j0, j1, ?_, ?_, ?_, j5, j6, ?_, ?_, ?_, ?_, ?_, ?_⟩, fun s a b => sh_fr a b (h5 s a b) (fun a _ _ => seti_r (by omega)) (by rw [seti1, if_neg (by omega)]) (fun a _ _ => seti_r (by omega)), ?_, h7, ?_⟩
  · rw [seti1, if_neg (by omega)]; exact j2
  · rw [seti1, if_neg (by omega)]; exact j3
  · rw [seti1, if_neg (by omega)]; exact j4
  · rw [seti1, if_neg (by omega)]; exact j7
  · rw [seti1, if_neg (by omega)]; exact j8
  · rw [seti1, if_neg (by omega), seti1, if_neg (by omega)]; exact j9
  · rw [seti1, if_pos ⟨rfl, rfl⟩, seti1, if_pos ⟨rfl, rfl⟩]
  · rw [seti1, if_pos ⟨rfl, rfl⟩]; exact hv
  · rw [seti_r (by omega), seti_r (by omega)]; exact j12
  · rw [seti_r (by omega), seti1, if_neg (by omega)]; exact h6
  · rw [seti_r (by omega)]; exact h8
theorem sim_crowd0 (h : SimB B N σ τ q) {v : Int32} (hv : v = 0 ∨ v = 1) (hs : σ.1 36 4 = v) : SimB B N σ (seti τ 0 23 v) q := by
  have := sim_crowd h hv
  have e : seti σ 36 4 v = σ := by
    refine Prod.ext ?_ rfl
    funext a b
    rw [seti1]
    by_cases q : a = 36 ∧ b = 4
    · rw [if_pos q, q.1, q.2, hs]
    · rw [if_neg q]
  rw [e] at this
  exact this
theorem op_step (h : Sim σ τ q) (hF : 10000 ≤ F) (hq : q < 2147483000) (p : Int32) : Op (f_X11_step F p σ) (f_X12_step F p τ) (q + 1) := by
  have hS := sim_mono h (show q ≤ q + 1 by omega)
  obtain ⟨B, N, h⟩ := h
  obtain ⟨hCor, h2⟩ := id h
  obtain ⟨hK, hR, hV, hBC, hBM, hNC, hNM⟩ := id hCor
  obtain ⟨z, rfl, z1, z2⟩ := I_ex p
  unfold f_X11_step f_X12_step
  rw [c_has hK hV hNC z1 z2, m_isAgent hK hV hNM z1 z2]
  by_cases hz : 0 ≤ z ∧ z < 400 ∧ 0 ≤ Nk N z
  · rw [if_pos hz, Option.bind_some, if_neg i01, Option.bind_some, if_neg i01, c_aliveRule hK hV hBC hNC hz.1 hz.2.1, m_facing hK hV hNM hz.1 hz.2.1, Option.bind_some, Option.bind_some]
    have kz := hV.2.2.1 z hz.1 hz.2.1
    have h16 := hK.2.1
    by_cases ha : 0 ≤ alv B N z
    · have hm : mate N z ≠ -1 := fun e => by
        unfold alv at ha
        rw [if_pos e] at ha
        omega
      rcases mate_b hK hV hz.1 hz.2.1 with w | ⟨w1, w2, w3, w4, w5⟩
      · exact absurd w hm
      · have kb := hV.2.2.1 _ w1 w2
        have hro := hR.2.2.1 _ _ w4 kz.2 w3 kb.2
        have hrn := hR.2.1
        have ealv : alv B N z = Bro B (16 * Nk N z + Nk N (mate N z)) := if_neg hm
        have c1 : ¬ (I (alv B N z) = (-1 : Int32)) := fun e => by
          have := (I_eq (by omega) (by omega) (by omega) (by omega)).mp (show I (alv B N z) = I (-1) from e)
          omega
        have c2 : (0 : Int32) ≤ I (mate N z) := (I_le (a := 0) (by omega) (by omega) (by omega) (by omega)).mpr w1
        have c3 : ¬ (I (Bro B (16 * Nk N z + Nk N (mate N z))) < (0 : Int32)) := by
          rw [show (0 : Int32) = I 0 from rfl, I_lt (by omega) (by omega) (by omega) (by omega)]; omega
        rw [if_neg c1, if_pos c2, m_ruleFor hK hV hBM hNM hz.1 hz.2.1 w1 w2 w4 w3, Option.bind_some, if_neg c3]
        rcases s_step h hF hq hz.1 hz.2.1 ha with ⟨e1, e2⟩ | ⟨N', σ', τ', e1, e2, e3, _⟩
        · rw [e1, e2]
          exact ⟨_, _, _, rfl, rfl, hS⟩
        · rw [e1, e2]
          exact ⟨_, _, _, rfl, rfl, B, N', e3⟩
    · have hal : -1 ≤ alv B N z := by
        unfold alv
        by_cases e : mate N z = -1
        · rw [if_pos e]; omega
        · rw [if_neg e]
          rcases mate_b hK hV hz.1 hz.2.1 with w | ⟨w1, w2, w3, w4, w5⟩
          · exact absurd w e
          · exact (hR.2.2.1 _ _ w4 kz.2 w3 (hV.2.2.1 _ w1 w2).2).1
      have e1 : I (alv B N z) = (-1 : Int32) := by rw [show alv B N z = -1 by omega]; rfl
      rw [if_pos e1]
      rcases mate_b hK hV hz.1 hz.2.1 with w | ⟨w1, w2, w3, w4, w5⟩
      · rw [w, if_neg (by decide)]
        exact ⟨_, _, _, rfl, rfl, hS⟩
      · have ealv : alv B N z = Bro B (16 * Nk N z + Nk N (mate N z)) := if_neg (by omega)
        have c2 : (0 : Int32) ≤ I (mate N z) := (I_le (a := 0) (by omega) (by omega) (by omega) (by omega)).mpr w1
        rw [if_pos c2, m_ruleFor hK hV hBM hNM hz.1 hz.2.1 w1 w2 w4 w3, ← ealv, Option.bind_some, e1, if_pos (by decide)]
        exact ⟨_, _, _, rfl, rfl, hS⟩
  · rw [if_neg hz]
    exact ⟨_, _, _, rfl, rfl, hS⟩
end RUN
