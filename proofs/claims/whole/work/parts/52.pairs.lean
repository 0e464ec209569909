/-! agents, wires, pairs: what single calls of both classes answer -/
theorem I_eq0 {a : Int} (h1 : -4294967296 < a) (h2 : a < 4294967296) : I a = I 0 ↔ a = 0 := by
  constructor
  · intro h
    have h' := congrArg Int32.toInt h
    rw [I_toInt (z := 0) (by omega) (by omega)] at h'
    unfold I at h'
    rw [Int32.toInt_ofInt] at h'
    have hs : Int32.size = 4294967296 := rfl
    rw [hs] at h'
    simp only [Int.bmod_def] at h'
    split at h' <;> omega
  · intro h
    rw [h]
def mate (N : NtT) (n : Int) : Int := if 0 ≤ Nk N n ∧ 0 ≤ Nw N (5 * n) ∧ Nw N (5 * n) % 5 = 0 then Nw N (5 * n) / 5 else -1
def alv (B : BkT) (N : NtT) (n : Int) : Int := if mate N n = -1 then -1 else Bro B (16 * Nk N n + Nk N (mate N n))
def prs (B : BkT) (N : NtT) (al : Bool) (n : Int) : Bool := decide (n < mate N n) && (decide (0 ≤ alv B N n) == al)
section PRS
variable {B : BkT} {N : NtT} {σ τ : St}
theorem liv_head (hK : KdV B) (hV : NetV B N) {n : Int} (h0 : 0 ≤ n) (h1 : n < 400) (hk : 0 ≤ Nk N n) : NLiv B N (5 * n) := by
  have h2 := (hV.2.2.1 n h0 h1).2
  have h3 := hK.2.2.1 _ hk h2
  refine Or.inr ⟨by omega, by omega, ?_, ?_⟩
  · rw [show 5 * n / 5 = n by omega]; exact hk
  · rw [show 5 * n / 5 = n by omega]; omega
theorem liv_port {n p : Int} (h0 : 0 ≤ n) (h1 : n < 400) (hk : 0 ≤ Nk N n) (hp0 : 0 ≤ p) (hp : p < Bpt B (Nk N n)) (hp5 : p < 5) : NLiv B N (5 * n + p) := by
  refine Or.inr ⟨by omega, by omega, ?_, ?_⟩
  · rw [show (5 * n + p) / 5 = n by omega]; exact hk
  · rw [show (5 * n + p) / 5 = n by omega, show (5 * n + p) % 5 = p by omega]; exact hp
theorem liv_ag {x : Int} (hL : NLiv B N x) (h : 0 ≤ x) : x < 2000 ∧ 0 ≤ Nk N (x / 5) ∧ x % 5 < Bpt B (Nk N (x / 5)) := by
  rcases hL with q | q
  · omega
  · exact q.2
theorem liv_r (hV : NetV B N) {x : Int} (hL : NLiv B N x) : -9 ≤ x ∧ x < 2000 := by
  have := hV.2.1
  rcases hL with q | q <;> omega
theorem to8_r {x : Int} (h : -9 ≤ x) (h' : x < 2000) : -9 ≤ to8 x ∧ to8 x < 3200 := by
  unfold to8
  split <;> omega
theorem to8_n {x : Int} (h : x < 0) : to8 x = x := if_pos h
theorem to8_p {x : Int} (h : 0 ≤ x) : to8 x = 8 * (x / 5) + x % 5 := if_neg (by omega)
theorem to8_lt {x : Int} : to8 x < 0 ↔ x < 0 := by
  unfold to8
  split <;> omega
theorem mate_b (hK : KdV B) (hV : NetV B N) {n : Int} (h0 : 0 ≤ n) (h1 : n < 400) : mate N n = -1 ∨ (0 ≤ mate N n ∧ mate N n < 400 ∧ 0 ≤ Nk N (mate N n) ∧ 0 ≤ Nk N n ∧ Nw N (5 * n) = 5 * mate N n) := by
  unfold mate
  split
  · rename_i h
    have hl := (hV.2.2.2 _ (liv_head hK hV h0 h1 h.1)).1
    have := liv_ag hl h.2.1
    exact Or.inr ⟨by omega, by omega, this.2.1, h.1, by omega⟩
  · exact Or.inl rfl
theorem c_has (hK : KdV B) (hV : NetV B N) (hC : NtC B N σ 77) {n : Int} (h0 : -2147483648 ≤ n) (h1 : n < 2147483648) : f_X4_has (I n) σ = some (if 0 ≤ n ∧ n < 400 ∧ 0 ≤ Nk N n then (1 : Int32) else 0) := by
  unfold f_X4_has
  have h16 := hK.2.1
  by_cases h : 0 ≤ n ∧ n < 400
  · have hk := hV.2.2.1 n h.1 h.2
    have he := hC.1 n h.1 h.2
    simp (disch := omega) only [I_lits, nz, nc, if_pos, if_neg, if_true, if_false, Option.bind_some, true_and, and_true, and_self, or_true, true_or, or_false, false_or, not_true_eq_false, not_false_eq_true, false_and, and_false, h.1, h.2, he]
    by_cases hn : Nk N n = -1
    · rw [if_pos hn, if_neg (by omega)]
    · rw [if_neg hn, if_pos (by omega)]
  · simp (disch := omega) only [I_lits, nz, nc]
    rw [if_neg (by omega), if_neg (by omega)]
theorem c_kindOf {b : Nat} (hC : NtC B N σ b) {n : Int} (h0 : -2147483648 ≤ n) (h1 : n < 2147483648) : f_X4_kindOf b (I n) σ = some (I (if 0 ≤ n ∧ n < 400 then Nk N n else -1)) := by
  unfold f_X4_kindOf f_X11_isInside
  by_cases h : 0 ≤ n ∧ n < 400
  · have he := hC.1 n h.1 h.2
    simp (disch := omega) only [I_lits, nz, nc, if_pos, if_neg, if_true, if_false, Option.bind_some, true_and, and_true, and_self, or_true, true_or, or_false, false_or, not_true_eq_false, not_false_eq_true, false_and, and_false, h.1, h.2, he]
  · simp (disch := omega) only [I_lits, nz, nc, if_pos, if_neg, if_true, if_false, Option.bind_some, true_and, and_true, and_self, or_true, true_or, or_false, false_or, not_true_eq_false, not_false_eq_true, false_and, and_false]
theorem c_wireOf (hV : NetV B N) {b : Nat} (hC : NtC B N σ b) {x : Int} (hL : NLiv B N x) : f_X4_wireOf b (I (to8 x)) σ = some (I (to8 (Nw N x))) := by
  have hx := liv_r hV hL
  have hx8 := to8_r hx.1 hx.2
  unfold f_X4_wireOf f_X11_isInside f_X11_endOf
  by_cases h : 0 ≤ x
  · have he := hC.2.1 x hL h
    rw [to8_p h]
    simp (disch := omega) only [I_lits, nz, nc, if_pos, if_neg, if_true, if_false, Option.bind_some, true_and, and_true, and_self, or_true, true_or, or_false, false_or, not_true_eq_false, not_false_eq_true, false_and, and_false]
    rw [he]
  · have he := hC.2.2.1 x hL (by omega)
    have h8 := hV.2.1
    have hl : -2 - x < 8 := by
      rcases hL with q | q <;> omega
    rw [to8_n (by omega)]
    rcases hL with q | q
    · simp (disch := omega) only [I_lits, nz, nc, if_pos, if_neg, if_true, if_false, Option.bind_some, true_and, and_true, and_self, or_true, true_or, or_false, false_or, not_true_eq_false, not_false_eq_true, false_and, and_false]
      rw [he]
    · omega
theorem c_mateOf (hK : KdV B) (hV : NetV B N) (hC : NtC B N σ 77) {n : Int} (h0 : 0 ≤ n) (h1 : n < 400) : f_X4_mateOf (I n) σ = some (I (mate N n)) := by
  unfold f_X4_mateOf f_X11_portOf f_X11_agentOf
  rw [c_has hK hV hC (by omega) (by omega)]
  unfold mate
  have h16 := hK.2.1
  have hk := hV.2.2.1 n h0 h1
  by_cases h : 0 ≤ Nk N n
  · have hL := liv_head hK hV h0 h1 h
    have he := hC.2.1 _ hL (by omega)
    have hl := (hV.2.2.2 _ hL).1
    have hr := liv_r hV hl
    rw [show 8 * (5 * n / 5) + 5 * n % 5 = n * 8 by omega] at he
    simp (disch := omega) only [I_lits, nz, nc, if_pos, if_neg, if_true, if_false, Option.bind_some, true_and, and_true, and_self, or_true, true_or, or_false, false_or, not_true_eq_false, not_false_eq_true, false_and, and_false, h0, h1, h, i01, he]
    by_cases hw : 0 ≤ Nw N (5 * n)
    · rw [to8_p hw]
      have e7 : I (8 * (Nw N (5 * n) / 5) + Nw N (5 * n) % 5) &&& I 7 = I (Nw N (5 * n) % 5) := by
        rw [show I 7 = (7 : Int32) from rfl, I_and7 (by omega) (by omega)]
        congr 1
        omega
      have e3 : I (8 * (Nw N (5 * n) / 5) + Nw N (5 * n) % 5) >>> (I 3 &&& 31) = I (Nw N (5 * n) / 5) := by
        rw [show I 3 = (3 : Int32) from rfl, I_shr3 (by omega) (by omega)]
        congr 1
        omega
      simp (disch := omega) only [I_lits, nz, nc, e7]
      by_cases hm : Nw N (5 * n) % 5 = 0
      · rw [if_pos ⟨by omega, hm⟩, if_pos ⟨hw, hm⟩]
        have : (31 : Int32) = I 31 := rfl
        first | rw [e3] | (rw [this] at e3; rw [e3])
      · rw [if_neg (fun q => hm q.2), if_neg (fun q => hm q.2)]
    · rw [to8_n (by omega)]
      simp (disch := omega) only [I_lits, nz, nc]
      rw [if_neg (by omega), if_neg (by omega)]
  · simp (disch := omega) only [I_lits, nz, nc, if_pos, if_neg, if_true, if_false, Option.bind_some, true_and, and_true, and_self, or_true, true_or, or_false, false_or, not_true_eq_false, not_false_eq_true, false_and, and_false, h0, h1, h]
theorem c_ruleFor {b : Nat} (hC : BkC B σ b) (hK : KdV B) {x y : Int} (hx0 : 0 ≤ x) (hx : x < Bkn B) (hy0 : 0 ≤ y) (hy : y < Bkn B) : f_X8_ruleFor (b + 5) (I x) (I y) σ = some (I (Bro B (16 * x + y))) := by
  unfold f_X8_ruleFor f_X11_isInside
  have h16 := hK.2.1
  have he := hC.2.2.1 x y hx0 hx hy0 hy
  simp (disch := omega) only [I_lits, nz, nc, if_pos, if_neg, if_true, if_false, Option.bind_some, true_and, and_true, and_self, or_true, true_or, or_false, false_or, not_true_eq_false, not_false_eq_true, false_and, and_false, i01]
  rw [show x * 16 + y = 16 * x + y by omega, he]
theorem c_aliveRule (hK : KdV B) (hV : NetV B N) (hB : BkC B σ 64) (hC : NtC B N σ 77) {n : Int} (h0 : 0 ≤ n) (h1 : n < 400) : f_X0_aliveRule (I n) σ = some (I (alv B N n)) := by
  unfold f_X0_aliveRule
  rw [c_mateOf hK hV hC h0 h1, c_kindOf hC (by omega) (by omega)]
  unfold alv
  rcases mate_b hK hV h0 h1 with h | ⟨a1, a2, a3, a4, a5⟩
  · rw [h]
    simp (disch := omega) only [I_lits, nz, nc, if_pos, if_neg, if_true, if_false, Option.bind_some, true_and, and_true, and_self, or_true, true_or, or_false, false_or, not_true_eq_false, not_false_eq_true, false_and, and_false]
  · rw [Option.bind_some, c_kindOf hC (by omega) (by omega)]
    have k1 := hV.2.2.1 n h0 h1
    have k2 := hV.2.2.1 _ a1 a2
    simp (disch := omega) only [I_lits, nz, nc, if_pos, if_neg, if_true, if_false, Option.bind_some, true_and, and_true, and_self, or_true, true_or, or_false, false_or, not_true_eq_false, not_false_eq_true, false_and, and_false, a1, a2, h0, h1]
    rw [c_ruleFor hB hK a4 k1.2 a3 k2.2]
    rfl
theorem c_isPair (hK : KdV B) (hR : RuV B) (hV : NetV B N) (hB : BkC B σ 64) (hC : NtC B N σ 77) {n : Int} (h0 : 0 ≤ n) (h1 : n < 400) (al : Bool) : f_X0_isPair (I n) (if al then 1 else 0) σ = some (I (if prs B N al n then 1 else 0)) := by
  unfold f_X0_isPair
  rw [c_mateOf hK hV hC h0 h1, c_aliveRule hK hV hB hC h0 h1, Option.bind_some, Option.bind_some]
  unfold prs
  rcases mate_b hK hV h0 h1 with h | ⟨a1, a2, a3, a4, a5⟩
  · rw [h]
    simp (disch := omega) only [I_lits, nz, nc]
    rw [if_neg (by omega), show decide (n < -1) = false from decide_eq_false (by omega)]
    rfl
  · have k1 := hV.2.2.1 n h0 h1
    have k2 := hV.2.2.1 _ a1 a2
    have hro := hR.2.2.1 _ _ a4 k1.2 a3 k2.2
    have hrn := hR.2.1
    have e : alv B N n = Bro B (16 * Nk N n + Nk N (mate N n)) := if_neg (by omega)
    simp (disch := omega) only [I_lits, nz, nc]
    by_cases hm : n < mate N n
    · rw [if_pos hm, e]
      try simp (disch := omega) only [I_lits, nz, nc]
      by_cases ha : 0 ≤ Bro B (16 * Nk N n + Nk N (mate N n))
      · rw [if_neg (by omega)]
        cases al <;> simp [hm, ha, I_lits, i01] <;> decide
      · rw [if_pos (by omega)]
        cases al <;> simp [hm, ha, I_lits, i01] <;> decide
    · rw [if_neg hm]
      simp [hm, I_lits]
theorem m_facing (hK : KdV B) (hV : NetV B N) (hM : NtM B N τ) {n : Int} (h0 : 0 ≤ n) (h1 : n < 400) : f_X12_facing (I n) τ = some (I (mate N n)) := by
  unfold f_X12_facing mate
  have h16 := hK.2.1
  have hk := hV.2.2.1 n h0 h1
  have ha := hM.1 n h0 h1
  by_cases h : 0 ≤ Nk N n
  · have hL := liv_head hK hV h0 h1 h
    have he := hM.2.1 _ hL (by omega)
    have hl := (hV.2.2.2 _ hL).1
    have hr := liv_r hV hl
    simp (disch := omega) only [I_lits, nz, nc, if_pos, if_neg, if_true, if_false, Option.bind_some, true_and, and_true, and_self, or_true, true_or, or_false, false_or, not_true_eq_false, not_false_eq_true, false_and, and_false, ha, he, h]
    by_cases hw : 0 ≤ Nw N (5 * n)
    · simp (disch := omega) only [I_lits, nz, nc]
      by_cases hm : Nw N (5 * n) % 5 = 0
      · rw [if_pos ⟨hw, by omega⟩, if_pos ⟨hw, hm⟩]
      · rw [if_neg (fun q => hm (by omega)), if_neg (fun q => hm q.2)]
    · rw [if_neg (fun q => hw q.1), if_neg (fun q => hw q.1)]
  · simp (disch := omega) only [I_lits, nz, nc, if_pos, if_neg, if_true, if_false, Option.bind_some, true_and, and_true, and_self, or_true, true_or, or_false, false_or, not_true_eq_false, not_false_eq_true, false_and, and_false, ha, h]
theorem m_ruleFor (hK : KdV B) (hV : NetV B N) (hB : BkM B τ) (hM : NtM B N τ) {x y : Int} (hx0 : 0 ≤ x) (hx : x < 400) (hy0 : 0 ≤ y) (hy : y < 400) (kx : 0 ≤ Nk N x) (ky : 0 ≤ Nk N y) : f_X12_ruleFor (I x) (I y) τ = some (I (Bro B (16 * Nk N x + Nk N y))) := by
  unfold f_X12_ruleFor
  have h16 := hK.2.1
  have k1 := hV.2.2.1 x hx0 hx
  have k2 := hV.2.2.1 y hy0 hy
  have ha := hM.1 x hx0 hx
  have hb := hM.1 y hy0 hy
  have he := hB.2.2.1 _ _ kx k1.2 ky k2.2
  simp (disch := omega) only [I_lits, nz, nc, if_pos, if_neg, if_true, if_false, Option.bind_some, true_and, and_true, and_self, or_true, true_or, or_false, false_or, not_true_eq_false, not_false_eq_true, false_and, and_false, ha, hb, he]
theorem m_isPair (hK : KdV B) (hR : RuV B) (hV : NetV B N) (hB : BkM B τ) (hM : NtM B N τ) {n : Int} (h0 : 0 ≤ n) (h1 : n < 400) (al : Bool) : f_X12_isPair (I n) (if al then 1 else 0) τ = some (I (if prs B N al n then 1 else 0)) := by
  unfold f_X12_isPair
  rw [m_facing hK hV hM h0 h1, Option.bind_some]
  unfold prs
  rcases mate_b hK hV h0 h1 with h | ⟨a1, a2, a3, a4, a5⟩
  · rw [h]
    simp (disch := omega) only [I_lits, nz, nc]
    rw [if_neg (by omega), show decide (n < -1) = false from decide_eq_false (by omega)]
    rfl
  · have k1 := hV.2.2.1 n h0 h1
    have k2 := hV.2.2.1 _ a1 a2
    have hro := hR.2.2.1 _ _ a4 k1.2 a3 k2.2
    have hrn := hR.2.1
    have e : alv B N n = Bro B (16 * Nk N n + Nk N (mate N n)) := if_neg (by omega)
    rw [m_ruleFor hK hV hB hM h0 h1 a1 a2 a4 a3]
    simp (disch := omega) only [I_lits, nz, nc]
    by_cases hm : n < mate N n
    · rw [if_pos hm, e]
      simp (disch := omega) only [I_lits, nz, nc, if_pos, if_neg, if_true, if_false, Option.bind_some, true_and, and_true, and_self, or_true, true_or, or_false, false_or, not_true_eq_false, not_false_eq_true, false_and, and_false]
      by_cases ha : 0 ≤ Bro B (16 * Nk N n + Nk N (mate N n))
      · rw [if_pos (by omega)]
        cases al <;> simp [hm, ha, I_lits, i01] <;> decide
      · rw [if_neg (by omega)]
        cases al <;> simp [hm, ha, I_lits, i01] <;> decide
    · rw [if_neg hm]
      simp [hm, I_lits]
end PRS
