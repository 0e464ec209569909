/-! run -/
def kcr : Int32 × St → Option (Int32 × St) := fun t7 => Option.bind (some (seti t7.2 (36) 4 (1 : Int32))) fun s8 => some (t7.1, s8)
section RU2
variable {B : BkT} {q : Int} {F : Nat}
theorem simb_mono {N : NtT} {σ τ : St} {q q' : Int} (h : SimB B N σ τ q) (hq : q ≤ q') : SimB B N σ τ q' := by
  obtain ⟨h1, h2, h3, ⟨n, m, h4⟩, h5⟩ := h
  exact ⟨h1, h2, h3, ⟨n, m, h4.1, h4.2.1, by omega, h4.2.2.2⟩, h5⟩
theorem s_single (hF : 10000 ≤ F) (hq : q < 2147400000) {od n : Int} (od0 : od = 0 ∨ od = 1 ∨ od = 3) (n1 : n ≤ 3000) : ∀ (fu : Nat) (v : Int) (N : NtT) (σ τ : St), 0 ≤ v → v ≤ n → n - v + 1 < fu → SimB B N σ τ (q + v) → σ.1 36 4 = 0 → ∃ N' σ' τ' r, f_X11_runSingly_L2 F (I od) (I n) kcr fu (I v) σ = some (r, σ') ∧ f_X12_run_L49 F (I od) (I n) fu (I v) (I 1) τ = some (r, τ') ∧ SimB B N' σ' τ' (q + 3000) := by
  intro fu
  induction fu with
  | zero => intro v N σ τ a b c; omega
  | succ fu ih =>
    intro v N σ τ v0 v1 hf hS h0
    rw [f_X11_runSingly_L2, f_X12_run_L49]
    by_cases hv : v = n
    · have hl : ¬ (I v < I n) := by rw [hv]; exact Int32.lt_irrefl
      rw [if_neg hl, if_pos (Or.inr hl), hv]
      exact ⟨N, σ, τ, _, rfl, rfl, simb_mono hS (by omega)⟩
    · have hl : I v < I n := (I_lt (by omega) (by omega) (by omega) (by omega)).mpr (by omega)
      have hc : ¬ (I 1 = (0 : Int32) ∨ ¬ (I v < I n)) := fun w => by
        rcases w with w | w
        · exact absurd w (by decide)
        · exact w hl
      obtain ⟨a, σ1, τ1, a1, a2, a3, a4, a5, a6⟩ := s_choose hS hF od0
      obtain ⟨hK, hR, hV, hBC, hBM, hNC, hNM⟩ := id a3.1
      rw [if_pos hl, if_neg hc, a1, a2, Option.bind_some, Option.bind_some]
      obtain ⟨fu', hfu'⟩ : ∃ fu', fu = fu' + 1 := ⟨fu - 1, by omega⟩
      rcases a4 with e | ⟨b0, b1, b2⟩
      · subst e
        have e1 : (I (-1) = (-1 : Int32)) := rfl
        rw [if_pos e1]
        refine ⟨N, σ1, seti τ1 0 23 0, I v, rfl, ?_, simb_mono (sim_crowd0 a3 (Or.inl rfl) (by rw [a5]; exact h0)) (by omega)⟩
        rw [Option.bind_some, if_neg (show ¬ ((0 : Int32) ≤ (I (-1), τ1).1) from (by decide : ¬ ((0 : Int32) ≤ I (-1)))), Option.bind_some, if_neg (fun w => absurd w.1 (show ¬ ((0 : Int32) ≤ (I (-1), τ1).1) from (by decide : ¬ ((0 : Int32) ≤ I (-1))))), Option.bind_some, Option.bind_some, if_pos rfl, Option.bind_some, Option.bind_some, hfu', f_X12_run_L49, if_pos (Or.inl rfl)]
        rw [show I v + (0 : Int32) = I v from Int32.add_zero _]
      · have e1 : ¬ (I a = (-1 : Int32)) := fun w => by
          have := (I_eq (by omega) (by omega) (by omega) (by omega)).mp (show I a = I (-1) from w)
          omega
        have e2 : (0 : Int32) ≤ I a := (I_le (a := 0) (by omega) (by omega) (by omega) (by omega)).mpr b0
        rw [if_neg e1]
        rcases s_step a3 hF (by omega) b0 b1 b2 with ⟨c1, c2⟩ | ⟨N', σ2, τ2, c1, c2, c3, c4⟩
        · refine ⟨N, seti σ1 36 4 1, seti τ1 0 23 1, I v, ?_, ?_, simb_mono (sim_crowd a3 (Or.inr rfl)) (by omega)⟩
          · rw [c1, Option.bind_some, if_pos rfl]
            rfl
          · rw [Option.bind_some, if_pos (show (0 : Int32) ≤ (I a, τ1).1 from e2), m_facing hK hV hNM b0 b1, Option.bind_some, c2, Option.bind_some, if_pos rfl, Option.bind_some, if_pos ⟨e2, rfl⟩, Option.bind_some, Option.bind_some, if_pos rfl, Option.bind_some, Option.bind_some, hfu', f_X12_run_L49, if_pos (Or.inl rfl)]
            rw [show I v + (0 : Int32) = I v from Int32.add_zero _]
        · have h36 : σ2.1 36 4 = 0 := by rw [c4.2.2.2.2.1, a5]; exact h0
          have hs2 := sim_crowd0 c3 (Or.inl rfl) h36
          rw [show q + v + 1 = q + (v + 1) by omega] at hs2
          obtain ⟨N3, σ3, τ3, r, d1, d2, d3⟩ := ih (v + 1) N' σ2 (seti τ2 0 23 0) (by omega) (by omega) (by omega) hs2 h36
          refine ⟨N3, σ3, τ3, r, ?_, ?_, d3⟩
          · rw [c1, Option.bind_some, if_neg i01, show (1 : Int32) = I 1 from rfl, I_add]
            exact d1
          · rw [Option.bind_some, if_pos (show (0 : Int32) ≤ (I a, τ1).1 from e2), m_facing hK hV hNM b0 b1, Option.bind_some, c2, Option.bind_some, if_neg i01, Option.bind_some, if_neg (fun w => absurd w.2 i01), Option.bind_some, Option.bind_some, if_neg i01, Option.bind_some, Option.bind_some]
            rw [show I v + (1 : Int32) = I (v + 1) from by rw [show (1 : Int32) = I 1 from rfl, I_add]]
            exact d2
/-- the pairs that are alive, listed in both -/
theorem s_list {N : NtT} {σ τ : St} (h : SimB B N σ τ q) (hF : 10000 ≤ F) (x1 x2 : Int32) : ∃ (m : Int) (σ' τ' : St) (L : Int → Int), f_X0_listAlivePairs F σ = some (I m, σ') ∧ f_X12_runRounds_L19 F x1 x2 F (0 : Int32) (0 : Int32) τ = some (I m, τ') ∧ 0 ≤ m ∧ m ≤ 200 ∧ (σ'.2 = σ.2 ∧ ∀ k, k ≠ 55 → σ'.1 k = σ.1 k) ∧ (τ'.2 = τ.2 ∧ ∀ k, k ≠ 43 → τ'.1 k = τ.1 k) ∧ (∀ i, 0 ≤ i → i < m → σ'.1 55 i.toNat = I (L i) ∧ τ'.1 43 i.toNat = I (L i) ∧ 0 ≤ L i ∧ L i < 400 ∧ prs B N true (L i) = true) ∧ ∀ i j, 0 ≤ i → i < j → j < m → L i < L j := by
  obtain ⟨hCor, _⟩ := id h
  obtain ⟨hK, hR, hV, hBC, hBM, hNC, hNM⟩ := id hCor
  -- two hundred pairs at most
  have room : ∀ (m : Int) (L : Int → Int), 0 ≤ m → (∀ i, 0 ≤ i → i < m → 0 ≤ L i ∧ L i < 400 ∧ prs B N true (L i) = true) → (∀ i j, 0 ≤ i → i < j → j < m → L i < L j) → 2 * m ≤ 400 := by
    intro m L m0 hL hinc
    have pr : ∀ i, 0 ≤ i → i < m → L i < mate N (L i) ∧ mate N (L i) < 400 ∧ Nw N (5 * L i) = 5 * mate N (L i) ∧ Nw N (5 * mate N (L i)) = 5 * L i := by
      intro i i0 i1
      obtain ⟨l0, l1, l2⟩ := hL i i0 i1
      have hp : L i < mate N (L i) := by
        unfold prs at l2
        simp only [Bool.and_eq_true, decide_eq_true_eq] at l2
        exact l2.1
      rcases mate_b hK hV l0 l1 with w | ⟨w1, w2, w3, w4, w5⟩
      · omega
      · have := (hV.2.2.2 _ (liv_head hK hV l0 l1 w4)).2.1
        rw [w5] at this
        exact ⟨hp, w2, w5, this⟩
    have dist : ∀ i j, 0 ≤ i → i < j → j < m → L i ≠ L j ∧ mate N (L i) ≠ mate N (L j) ∧ L i ≠ mate N (L j) ∧ mate N (L i) ≠ L j := by
      intro i j i0 ij j1
      have h1 := hinc i j i0 ij j1
      have pi := pr i i0 (by omega)
      have pj := pr j (by omega) j1
      refine ⟨by omega, fun e => ?_, fun e => ?_, fun e => ?_⟩
      · have := pi.2.2.2
        rw [e, pj.2.2.2] at this
        omega
      · have := pj.2.2.2
        rw [← e, pi.2.2.1] at this
        omega
      · have := pi.2.2.2
        rw [e, pj.2.2.1] at this
        omega
    have := pigle (s := (2 * m).toNat) (n := 400) (g := fun j => if j % 2 = 0 then L ((j / 2 : Nat) : Int) else mate N (L ((j / 2 : Nat) : Int))) (fun j hj => by
      have hl := hL ((j / 2 : Nat) : Int) (by omega) (by omega)
      have hp := pr ((j / 2 : Nat) : Int) (by omega) (by omega)
      by_cases e : j % 2 = 0
      · simp only [e, if_true]; omega
      · simp only [e, if_false]; omega) (fun i j ij hj => by
      have hp := pr ((i / 2 : Nat) : Int) (by omega) (by omega)
      by_cases e1 : i % 2 = 0
      · by_cases e2 : j % 2 = 0
        · simp only [e1, e2, if_true]
          exact (dist _ _ (by omega) (by omega) (by omega)).1
        · simp only [e1, e2, if_true, if_false]
          by_cases e3 : i / 2 = j / 2
          · rw [← e3]; omega
          · exact (dist _ _ (by omega) (by omega) (by omega)).2.2.1
      · by_cases e2 : j % 2 = 0
        · simp only [e1, e2, if_true, if_false]
          exact (dist _ _ (by omega) (by omega) (by omega)).2.2.2
        · simp only [e1, e2, if_false]
          exact (dist _ _ (by omega) (by omega) (by omega)).2.1)
    omega
  obtain ⟨t, t0, t1, t2, t3⟩ := id hNC.2.2.2.2.2.2
  -- the loops side by side: the class stops at its top, the reference goes on to 400
  have loop : ∀ (n : Nat) (m k : Int) (L : Int → Int) (s u : St), 0 ≤ m → 0 ≤ k → k ≤ 400 → 400 - k < n → (s.2 = σ.2 ∧ ∀ c, c ≠ 55 → s.1 c = σ.1 c) → (u.2 = τ.2 ∧ ∀ c, c ≠ 43 → u.1 c = τ.1 c) → (∀ i, 0 ≤ i → i < m → s.1 55 i.toNat = I (L i) ∧ u.1 43 i.toNat = I (L i) ∧ 0 ≤ L i ∧ L i < k ∧ prs B N true (L i) = true) → (∀ i j, 0 ≤ i → i < j → j < m → L i < L j) → ∃ (m' : Int) (s' u' : St) (L' : Int → Int), f_X0_listAlivePairs_L4 F n (I m) (I k) s = some (I m', s') ∧ f_X12_runRounds_L19 F x1 x2 n (I m) (I k) u = some (I m', u') ∧ 0 ≤ m' ∧ m' ≤ 200 ∧ (s'.2 = σ.2 ∧ ∀ c, c ≠ 55 → s'.1 c = σ.1 c) ∧ (u'.2 = τ.2 ∧ ∀ c, c ≠ 43 → u'.1 c = τ.1 c) ∧ (∀ i, 0 ≤ i → i < m' → s'.1 55 i.toNat = I (L' i) ∧ u'.1 43 i.toNat = I (L' i) ∧ 0 ≤ L' i ∧ L' i < 400 ∧ prs B N true (L' i) = true) ∧ ∀ i j, 0 ≤ i → i < j → j < m' → L' i < L' j := by
    intro n
    induction n with
    | zero => intro m k L s u a b c d; omega
    | succ n ih =>
      intro m k L s u m0 k0 k1 hn hs hu hL hinc
      have hm200 := room m L m0 (fun i a b => ⟨(hL i a b).2.2.1, by have := (hL i a b).2.2.2.1; omega, (hL i a b).2.2.2.2⟩) hinc
      have hNCs : NtC B N s 77 := ntc_fr hNC (fun c _ _ => hs.2 c (by omega))
      have hBCs : BkC B s 64 := bkc_fr hBC (fun c _ _ => hs.2 c (by omega)) (by rw [hs.1])
      have hNMu : NtM B N u := ntm_fr hNM (fun c _ _ => hu.2 c (by omega)) (fun j _ => by rw [hu.2 0 (by omega)])
      have hBMu : BkM B u := bkm_fr hBM (fun c _ _ => hu.2 c (by omega)) (fun j _ => by rw [hu.2 0 (by omega)]) (by rw [hu.1])
      have e77 : s.1 77 6 = I t := by rw [hs.2 77 (by omega)]; exact t2
      by_cases hk : k = 400
      · rw [f_X0_listAlivePairs_L4, f_X12_runRounds_L19, e77]
        have hl1 : ¬ (I k < I t ∧ I m < (400 : Int32)) := fun w => by
          have := (I_lt (by omega) (by omega) (by omega) (by omega)).mp w.1
          omega
        have hl2 : ¬ (I k < (400 : Int32)) := by
          rw [hk]; exact Int32.lt_irrefl
        rw [if_neg hl1, if_neg hl2]
        exact ⟨m, s, u, L, rfl, rfl, m0, by omega, hs, hu, fun i a b => ⟨(hL i a b).1, (hL i a b).2.1, (hL i a b).2.2.1, by have := (hL i a b).2.2.2.1; omega, (hL i a b).2.2.2.2⟩, hinc⟩
      · have mis : f_X12_isPair (I k) (1 : Int32) u = some (I (if prs B N true k = true then 1 else 0)) := m_isPair hK hR hV hBMu hNMu (n := k) k0 (by omega) true
        have cis : f_X0_isPair (I k) (1 : Int32) s = some (I (if prs B N true k = true then 1 else 0)) := c_isPair hK hR hV hBCs hNCs (n := k) k0 (by omega) true
        have hl2 : I k < (400 : Int32) := (I_lt (b := 400) (by omega) (by omega) (by omega) (by omega)).mpr (by omega)
        by_cases hkt : k < t
        · have hl1 : (I k < I t ∧ I m < (400 : Int32)) := ⟨(I_lt (by omega) (by omega) (by omega) (by omega)).mpr hkt, (I_lt (b := 400) (by omega) (by omega) (by omega) (by omega)).mpr (by omega)⟩
          by_cases hp : prs B N true k = true
          · have hm' := room (m + 1) (fun i => if i = m then k else L i) (by omega) (fun i a b => by
              by_cases e : i = m
              · rw [if_pos e]; exact ⟨k0, by omega, hp⟩
              · rw [if_neg e]
                have := hL i a (by omega)
                exact ⟨this.2.2.1, by omega, this.2.2.2.2⟩) (fun i j a b c => by
              show (if i = m then k else L i) < (if j = m then k else L j)
              rw [if_neg (by omega)]
              by_cases e : j = m
              · rw [if_pos e]; exact (hL i a (by omega)).2.2.2.1
              · rw [if_neg e]; exact hinc i j a b (by omega))
            have in4 : inb (I m) 400 = true := (I_inb (by omega) (by omega)).mpr ⟨by omega, by omega⟩
            have in2 : inb (I m) 200 = true := (I_inb (by omega) (by omega)).mpr ⟨by omega, by omega⟩
            have ixm : ix (I m) = m.toNat := I_ix (by omega) (by omega)
            obtain ⟨m', s', u', L', q1, q2, q3⟩ := ih (m + 1) (k + 1) (fun i => if i = m then k else L i) (seti s 55 m.toNat (I k)) (seti u 43 m.toNat (I k)) (by omega) (by omega) (by omega) (by omega) ⟨hs.1, fun c hc => by rw [seti_r hc, hs.2 c hc]⟩ ⟨hu.1, fun c hc => by rw [seti_r hc, hu.2 c hc]⟩ (fun i a b => by
              show _ = I (if i = m then k else L i) ∧ _ = I (if i = m then k else L i) ∧ 0 ≤ (if i = m then k else L i) ∧ (if i = m then k else L i) < k + 1 ∧ prs B N true (if i = m then k else L i) = true
              by_cases e : i = m
              · rw [if_pos e, seti1, seti1, if_pos (by rw [e]; exact ⟨rfl, rfl⟩), if_pos (by rw [e]; exact ⟨rfl, rfl⟩)]
                exact ⟨rfl, rfl, k0, by omega, hp⟩
              · have := hL i a (by omega)
                rw [if_neg e, seti1, seti1, if_neg (by omega), if_neg (by omega)]
                exact ⟨this.1, this.2.1, this.2.2.1, by omega, this.2.2.2.2⟩) (fun i j a b c => by
              show (if i = m then k else L i) < (if j = m then k else L j)
              rw [if_neg (by omega)]
              by_cases e : j = m
              · rw [if_pos e]; exact (hL i a (by omega)).2.2.2.1
              · rw [if_neg e]; exact hinc i j a b (by omega))
            refine ⟨m', s', u', L', ?_, ?_, q3⟩
            · rw [f_X0_listAlivePairs_L4, e77, if_pos hl1, cis, Option.bind_some, if_pos hp, if_neg (by decide), if_pos in4, Option.bind_some, ixm, Option.bind_some, Option.bind_some, show (1 : Int32) = I 1 from rfl, I_add, I_add]
              exact q1
            · rw [f_X12_runRounds_L19, if_pos hl2, mis, Option.bind_some, if_pos hp, if_neg (by decide), if_pos in2, Option.bind_some, ixm, Option.bind_some, Option.bind_some, show (1 : Int32) = I 1 from rfl, I_add, I_add]
              exact q2
          · obtain ⟨m', s', u', L', q1, q2, q3⟩ := ih m (k + 1) L s u m0 (by omega) (by omega) (by omega) hs hu (fun i a b => by
              have := hL i a b
              exact ⟨this.1, this.2.1, this.2.2.1, by omega, this.2.2.2.2⟩) hinc
            refine ⟨m', s', u', L', ?_, ?_, q3⟩
            · rw [f_X0_listAlivePairs_L4, e77, if_pos hl1, cis, Option.bind_some, if_neg hp, if_pos (by decide), Option.bind_some, show (1 : Int32) = I 1 from rfl, I_add]
              exact q1
            · rw [f_X12_runRounds_L19, if_pos hl2, mis, Option.bind_some, if_neg hp, if_pos (by decide), Option.bind_some, show (1 : Int32) = I 1 from rfl, I_add]
              exact q2
        · -- beyond the top there is none
          have tail : ∀ (n : Nat) (k : Int), t ≤ k → k ≤ 400 → 400 - k < n → f_X12_runRounds_L19 F x1 x2 n (I m) (I k) u = some (I m, u) := by
            intro n
            induction n with
            | zero => intro k a b c; omega
            | succ n ih2 =>
              intro k a b c
              rw [f_X12_runRounds_L19]
              by_cases hk' : k = 400
              · rw [if_neg (by rw [hk']; exact Int32.lt_irrefl)]
              · have hp : prs B N true k = false := prs_top hK hV (by omega) (t3 k a (by omega))
                have mis' : f_X12_isPair (I k) (1 : Int32) u = some (I (if prs B N true k = true then 1 else 0)) := m_isPair hK hR hV hBMu hNMu (n := k) (by omega) (by omega) true
                have hl2' : I k < (400 : Int32) := (I_lt (b := 400) (by omega) (by omega) (by omega) (by omega)).mpr (by omega)
                rw [if_pos hl2', mis', Option.bind_some, hp, if_pos (by decide), Option.bind_some, show (1 : Int32) = I 1 from rfl, I_add]
                exact ih2 (k + 1) (by omega) (by omega) (by omega)
          have hl1 : ¬ (I k < I t ∧ I m < (400 : Int32)) := fun w => by
            have := (I_lt (by omega) (by omega) (by omega) (by omega)).mp w.1
            omega
          refine ⟨m, s, u, L, ?_, tail (n + 1) k (by omega) k1 hn, m0, by omega, hs, hu, fun i a b => ⟨(hL i a b).1, (hL i a b).2.1, (hL i a b).2.2.1, by have := (hL i a b).2.2.2.1; omega, (hL i a b).2.2.2.2⟩, hinc⟩
          rw [f_X0_listAlivePairs_L4, e77, if_neg hl1]
  obtain ⟨m, s', u', L, q1, q2, q3⟩ := loop F 0 0 (fun _ => 0) σ τ (by omega) (by omega) (by omega) (by omega) ⟨rfl, fun _ _ => rfl⟩ ⟨rfl, fun _ _ => rfl⟩ (fun i a b => by omega) (fun i j a b c => by omega)
  refine ⟨m, s', u', L, ?_, q2, q3⟩
  unfold f_X0_listAlivePairs
  rw [show (0 : Int32) = I 0 from rfl, q1]
  rfl
end RU2
