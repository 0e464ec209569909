/-! calls that only tell -/
theorem I_inj {a b : Int} (h : a = b) : I a = I b := by rw [h]
theorem i01r : ((1 : Int32) = 0) = False := by decide
section ASK
variable {B : BkT} {N : NtT} {σ τ : St} {q : Int}
theorem c_portsOf {b : Nat} (hC : BkC B σ b) (hK : KdV B) {k : Int} (h0 : -2147483648 ≤ k) (h1 : k < 2147483648) : f_X3_portsOf (b + 1) (I k) σ = some (I (if 0 ≤ k ∧ k < Bkn B then Bpt B k else 0)) := by
  unfold f_X3_portsOf
  have h16 := hK.2.1
  have h00 := hK.1
  rw [hC.1.1]
  by_cases h : 0 ≤ k ∧ k < Bkn B
  · have he := hC.1.2.2.1 k h.1 h.2
    simp (disch := omega) only [I_lits, nz, nc, if_pos, if_neg, if_true, if_false, Option.bind_some, true_and, and_true, and_self, or_true, true_or, or_false, false_or, not_true_eq_false, not_false_eq_true, false_and, and_false, h.1, h.2]
    rw [he]
  · simp (disch := omega) only [I_lits, nz, nc, if_pos, if_neg, if_true, if_false, Option.bind_some, true_and, and_true, and_self, or_true, true_or, or_false, false_or, not_true_eq_false, not_false_eq_true, false_and, and_false, h, show ¬ (0 ≤ k ∧ k < Bkn B ∧ k < 16) from fun q => h ⟨q.1, q.2.1⟩]
theorem c_kHas {b : Nat} (hC : BkC B σ b) (hK : KdV B) {k : Int} (h0 : -2147483648 ≤ k) (h1 : k < 2147483648) : f_X3_has (b + 1) (I k) σ = if 0 ≤ k ∧ k < Bkn B then (1 : Int32) else 0 := by
  unfold f_X3_has
  have h16 := hK.2.1
  have h00 := hK.1
  rw [hC.1.1]
  by_cases h : 0 ≤ k ∧ k < Bkn B
  · simp (disch := omega) only [I_lits, nz, nc, if_pos, if_neg, if_true, if_false, Option.bind_some, true_and, and_true, and_self, or_true, true_or, or_false, false_or, not_true_eq_false, not_false_eq_true, false_and, and_false, h.1, h.2]
  · simp (disch := omega) only [I_lits, nz, nc, if_pos, if_neg, if_true, if_false, Option.bind_some, true_and, and_true, and_self, or_true, true_or, or_false, false_or, not_true_eq_false, not_false_eq_true, false_and, and_false, h, show ¬ (0 ≤ k ∧ k < Bkn B ∧ k < 16) from fun q => h ⟨q.1, q.2.1⟩]
theorem m_isAgent (hK : KdV B) (hV : NetV B N) (hM : NtM B N τ) {n : Int} (h0 : -2147483648 ≤ n) (h1 : n < 2147483648) : f_X12_isAgent (I n) τ = some (if 0 ≤ n ∧ n < 400 ∧ 0 ≤ Nk N n then (1 : Int32) else 0) := by
  unfold f_X12_isAgent
  have h16 := hK.2.1
  rw [x12_in]
  simp only [x64, Int32.toInt_toInt64, I_toInt h0 h1]
  by_cases h : 0 ≤ n ∧ n < 400
  · have hk := hV.2.2.1 n h.1 h.2
    have he := hM.1 n h.1 h.2
    simp (disch := omega) only [I_lits, nz, nc, if_pos, if_neg, if_true, if_false, Option.bind_some, true_and, and_true, and_self, or_true, true_or, or_false, false_or, not_true_eq_false, not_false_eq_true, false_and, and_false, h.1, h.2, i01, he]
    by_cases hn : 0 ≤ Nk N n
    · rw [if_pos hn, if_pos hn]
    · rw [if_neg hn, if_neg hn]
  · simp (disch := omega) only [I_lits, nz, nc, if_pos, if_neg, if_true, if_false, Option.bind_some, true_and, and_true, and_self, or_true, true_or, or_false, false_or, not_true_eq_false, not_false_eq_true, false_and, and_false, show ¬ (0 ≤ n ∧ n ≤ 399) from by omega]
theorem asTold {x : Int} (h : -9 ≤ x) (h' : x < 2000) : f_X12_asTold (I x) = some (I (to8 x)) := by
  unfold f_X12_asTold to8
  by_cases hx : x < 0
  · simp (disch := omega) only [I_lits, nz, nc, if_pos, if_neg, if_true, if_false, Option.bind_some, true_and, and_true, and_self, or_true, true_or, or_false, false_or, not_true_eq_false, not_false_eq_true, false_and, and_false, hx]
  · simp (disch := omega) only [I_lits, nz, nc, if_pos, if_neg, if_true, if_false, Option.bind_some, true_and, and_true, and_self, or_true, true_or, or_false, false_or, not_true_eq_false, not_false_eq_true, false_and, and_false, hx]
    congr 2
    omega
def Op1 (X Y : Option Int32) : Prop := ∃ r, X = some r ∧ Y = some r
theorem op1 {X Y : Option Int32} (h : Sim σ τ q) (k : Op1 X Y) : Op (X.map (fun r => (r, σ))) (Y.map (fun r => (r, τ))) q := by
  obtain ⟨r, h1, h2⟩ := k
  exact ⟨r, σ, τ, by rw [h1]; rfl, by rw [h2]; rfl, h⟩
theorem op_agent (h : Sim σ τ q) (p : Int32) : Op1 (f_X11_agent p σ) (f_X12_agent p τ) := by
  obtain ⟨B, N, ⟨hK, hR, hV, hBC, hBM, hNC, hNM⟩, h2⟩ := h
  obtain ⟨z, rfl, z1, z2⟩ := I_ex p
  unfold f_X11_agent f_X12_agent
  rw [c_has hK hV hNC z1 z2, c_kindOf hNC z1 z2, m_isAgent hK hV hNM z1 z2]
  by_cases hz : 0 ≤ z ∧ z < 400 ∧ 0 ≤ Nk N z
  · have he := hNM.1 z hz.1 hz.2.1
    simp (disch := omega) only [I_lits, nz, nc, if_pos, if_neg, if_true, if_false, Option.bind_some, true_and, and_true, and_self, or_true, true_or, or_false, false_or, not_true_eq_false, not_false_eq_true, false_and, and_false, hz, i01, he]
    exact ⟨_, rfl, rfl⟩
  · simp (disch := omega) only [I_lits, nz, nc, if_pos, if_neg, if_true, if_false, Option.bind_some, true_and, and_true, and_self, or_true, true_or, or_false, false_or, not_true_eq_false, not_false_eq_true, false_and, and_false, hz]
    exact ⟨_, rfl, rfl⟩
theorem op_wired (h : Sim σ τ q) (p p' : Int32) : Op1 (f_X11_wired p p' σ) (f_X12_wired p p' τ) := by
  obtain ⟨B, N, ⟨hK, hR, hV, hBC, hBM, hNC, hNM⟩, h2⟩ := h
  obtain ⟨z, rfl, z1, z2⟩ := I_ex p
  obtain ⟨y, rfl, y1, y2⟩ := I_ex p'
  unfold f_X11_wired f_X12_wired f_X3_hasPort f_X11_portCode
  rw [c_has hK hV hNC z1 z2, c_kindOf hNC z1 z2, m_isAgent hK hV hNM z1 z2]
  by_cases hz : 0 ≤ z ∧ z < 400 ∧ 0 ≤ Nk N z
  · have he := hNM.1 z hz.1 hz.2.1
    have hk := hV.2.2.1 z hz.1 hz.2.1
    have hp := hK.2.2.1 _ hz.2.2 hk.2
    have h16 := hK.2.1
    have hpm := hBM.1.2.2.1 _ hz.2.2 hk.2
    rw [if_pos hz, if_pos (show 0 ≤ z ∧ z < 400 from ⟨hz.1, hz.2.1⟩)]
    simp (disch := omega) only [I_lits, nz, nc, if_pos, if_neg, if_true, if_false, Option.bind_some, true_and, and_true, and_self, or_true, true_or, or_false, false_or, not_true_eq_false, not_false_eq_true, false_and, and_false, i01, he, hpm]
    rw [c_portsOf hBC hK (by omega) (by omega), if_pos (show 0 ≤ Nk N z ∧ Nk N z < Bkn B from ⟨hz.2.2, hk.2⟩), x12_in]
    simp (disch := omega) only [I_lits, nz, nc, x64, Int32.toInt_toInt64, I_toInt y1 y2, I_toInt (show -2147483648 ≤ Bpt B (Nk N z) - 1 by omega) (show Bpt B (Nk N z) - 1 < 2147483648 by omega)]
    by_cases hy : 0 ≤ y ∧ y < Bpt B (Nk N z)
    · have hL : NLiv B N (5 * z + y) := liv_port hz.1 hz.2.1 hz.2.2 hy.1 hy.2 (by omega)
      have hr := liv_r hV (hV.2.2.2 _ hL).1
      have hw := c_wireOf hV hNC hL
      rw [to8_p (by omega), show 8 * ((5 * z + y) / 5) + (5 * z + y) % 5 = 8 * z + y by omega] at hw
      have hm := hNM.2.1 _ hL (by omega)
      simp (disch := omega) only [I_lits, nz, nc, if_pos, if_neg, if_true, if_false, Option.bind_some, true_and, and_true, and_self, or_true, true_or, or_false, false_or, not_true_eq_false, not_false_eq_true, false_and, and_false, hy.1, hy.2, i01, hw, hm, asTold hr.1 hr.2, show y ≤ Bpt B (Nk N z) - 1 from by omega]
      exact ⟨_, rfl, rfl⟩
    · by_cases hy0 : 0 ≤ y
      · simp (disch := omega) only [I_lits, nz, nc, if_pos, if_neg, if_true, if_false, Option.bind_some, true_and, and_true, and_self, or_true, true_or, or_false, false_or, not_true_eq_false, not_false_eq_true, false_and, and_false, hy0, show ¬ y < Bpt B (Nk N z) from by omega, show ¬ y ≤ Bpt B (Nk N z) - 1 from by omega]
        exact ⟨_, rfl, rfl⟩
      · simp (disch := omega) only [I_lits, nz, nc, if_pos, if_neg, if_true, if_false, Option.bind_some, true_and, and_true, and_self, or_true, true_or, or_false, false_or, not_true_eq_false, not_false_eq_true, false_and, and_false, hy0]
        exact ⟨_, rfl, rfl⟩
  · simp (disch := omega) only [I_lits, nz, nc, if_pos, if_neg, if_true, if_false, Option.bind_some, true_and, and_true, and_self, or_true, true_or, or_false, false_or, not_true_eq_false, not_false_eq_true, false_and, and_false, hz]
    exact ⟨_, rfl, rfl⟩
theorem op_end (h : Sim σ τ q) (p : Int32) : Op1 (f_X11_end p σ) (f_X12_end p τ) := by
  obtain ⟨B, N, ⟨hK, hR, hV, hBC, hBM, hNC, hNM⟩, h2⟩ := h
  obtain ⟨z, rfl, z1, z2⟩ := I_ex p
  unfold f_X11_end f_X12_end f_X4_hasEnd f_X11_isInside f_X11_endCode
  have he := hNC.2.2.2.2.1
  have hm := hNM.2.2.2.1
  have h0 := hV.1
  have h8 := hV.2.1
  rw [he, hm, x12_in]
  simp (disch := omega) only [I_lits, nz, nc, x64, Int32.toInt_toInt64, I_toInt z1 z2, I_toInt (show -2147483648 ≤ Ne N - 1 by omega) (show Ne N - 1 < 2147483648 by omega)]
  by_cases hz : 0 ≤ z ∧ z < Ne N
  · have hL : NLiv B N (-2 - z) := Or.inl ⟨by omega, by omega⟩
    have hr := liv_r hV (hV.2.2.2 _ hL).1
    have hw := c_wireOf hV hNC hL
    rw [to8_n (by omega)] at hw
    have hmm := hNM.2.2.1 _ hL (by omega)
    rw [show -2 - (-2 - z) = z by omega] at hmm
    simp (disch := omega) only [I_lits, nz, nc, if_pos, if_neg, if_true, if_false, Option.bind_some, true_and, and_true, and_self, or_true, true_or, or_false, false_or, not_true_eq_false, not_false_eq_true, false_and, and_false, hz.1, hz.2, i01, hw, hmm, asTold hr.1 hr.2, show z ≤ Ne N - 1 from by omega]
    exact ⟨_, rfl, rfl⟩
  · simp (disch := omega) only [I_lits, nz, nc, if_pos, if_neg, if_true, if_false, Option.bind_some, true_and, and_true, and_self, or_true, true_or, or_false, false_or, not_true_eq_false, not_false_eq_true, false_and, and_false, hz, show ¬ (0 ≤ z ∧ z ≤ Ne N - 1) from by omega]
    exact ⟨_, rfl, rfl⟩
theorem op_rule (h : Sim σ τ q) (p p' : Int32) : Op1 (f_X11_rule p p' σ) (f_X12_rule p p' τ) := by
  obtain ⟨B, N, ⟨hK, hR, hV, hBC, hBM, hNC, hNM⟩, h2⟩ := h
  obtain ⟨z, rfl, z1, z2⟩ := I_ex p
  obtain ⟨y, rfl, y1, y2⟩ := I_ex p'
  unfold f_X11_rule f_X12_rule f_X8_agentsIn f_X8_has
  have h0 := hK.1
  have h16 := hK.2.1
  rw [c_kHas hBC hK z1 z2, c_kHas hBC hK y1 y2, x12_in, x12_in, hBM.1.1]
  simp (disch := omega) only [I_lits, nz, nc, x64, Int32.toInt_toInt64, I_toInt z1 z2, I_toInt y1 y2, I_toInt (show -2147483648 ≤ Bkn B - 1 by omega) (show Bkn B - 1 < 2147483648 by omega)]
  by_cases hz : (0 ≤ z ∧ z < Bkn B)
  · by_cases hy : (0 ≤ y ∧ y < Bkn B)
    · have hr := c_ruleFor hBC hK hz.1 hz.2 hy.1 hy.2
      have hm := hBM.2.2.1 z y hz.1 hz.2 hy.1 hy.2
      have hv := hR.2.2.1 z y hz.1 hz.2 hy.1 hy.2
      have hrn := hR.2.1
      rw [if_pos hz, if_pos hy, if_pos (show 0 ≤ z ∧ z ≤ Bkn B - 1 by omega), if_pos (show 0 ≤ y ∧ y ≤ Bkn B - 1 by omega)]
      simp (disch := omega) only [I_lits, nz, nc, if_pos, if_neg, if_true, if_false, Option.bind_some, true_and, and_true, and_self, or_true, true_or, or_false, false_or, not_true_eq_false, not_false_eq_true, false_and, and_false, i01, hr, hm, hBC.2.1]
      by_cases hx : 0 ≤ Bro B (16 * z + y)
      · have ha := (hR.2.2.2.1 _ hx hv.2.1)
        have e1 := (hBC.2.2.2.1 _ hx hv.2.1).2.1
        have e2 := (hBM.2.2.2.1 _ hx hv.2.1).2.2.1
        simp (disch := omega) only [I_lits, nz, nc, if_pos, if_neg, if_true, if_false, Option.bind_some, true_and, and_true, and_self, or_true, true_or, or_false, false_or, not_true_eq_false, not_false_eq_true, false_and, and_false, hx, hv.2.1, i01, e1, e2]
        exact ⟨_, rfl, rfl⟩
      · simp (disch := omega) only [I_lits, nz, nc, if_pos, if_neg, if_true, if_false, Option.bind_some, true_and, and_true, and_self, or_true, true_or, or_false, false_or, not_true_eq_false, not_false_eq_true, false_and, and_false, hx]
        exact ⟨_, rfl, rfl⟩
    · simp (disch := omega) only [I_lits, nz, nc, if_pos, if_neg, if_true, if_false, Option.bind_some, true_and, and_true, and_self, or_true, true_or, or_false, false_or, not_true_eq_false, not_false_eq_true, false_and, and_false, hz, hy, show ¬ (0 ≤ y ∧ y ≤ Bkn B - 1) from by omega]
      exact ⟨_, rfl, rfl⟩
  · simp (disch := omega) only [I_lits, nz, nc, if_pos, if_neg, if_true, if_false, Option.bind_some, true_and, and_true, and_self, or_true, true_or, or_false, false_or, not_true_eq_false, not_false_eq_true, false_and, and_false, hz, show ¬ (0 ≤ z ∧ z ≤ Bkn B - 1) from by omega]
    exact ⟨_, rfl, rfl⟩
end ASK
