/-! counting loops -/
theorem I_add0 (v : Int32) : v + I 0 = v := Int32.add_zero v
theorem I_suc (j : Nat) : I (j : Int) + I 1 = I ((j + 1 : Nat) : Int) := by
  rw [I_add]
  congr 1
theorem cnt_loop {L : Nat → Int32 → Int32 → Option Int32} {p : Int → Bool} {c : Nat} (hL : ∀ (n : Nat) (v : Int32) (j : Nat), j < c → L (n + 1) v (I j) = L n (v + I (if p j then 1 else 0)) (I j + I 1)) (hE : ∀ n v, L (n + 1) v (I c) = some v) : ∀ (n j : Nat), j ≤ c → c - j < n → L n (I (cnt p j)) (I j) = some (I (cnt p c)) := by
  intro n
  induction n with
  | zero => intro j h1 h2; omega
  | succ n ih =>
    intro j h1 h2
    by_cases h : j = c
    · subst h
      exact hE n _
    · rw [hL n _ j (by omega), I_suc, I_add]
      exact ih (j + 1) (by omega) (by omega)
theorem cnt_top {p : Int → Bool} : ∀ (c d : Nat), d ≤ c → (∀ i : Int, d ≤ i → i < c → p i = false) → cnt p d = cnt p c
  | 0, d, h1, _ => by
    have : d = 0 := by omega
    subst this; rfl
  | c + 1, d, h1, h2 => by
    by_cases h : d = c + 1
    · subst h; rfl
    · rw [cnt, ← cnt_top c d (by omega) (fun i a b => h2 i a (by omega)), h2 c (by omega) (by omega)]
      simp
def nth (p : Int → Bool) : Nat → Int → Int → Int
  | 0, _, _ => -1
  | m + 1, a, k => if p k then (if a = 0 then k else nth p m (a - 1) (k + 1)) else nth p m a (k + 1)
theorem nth_neg {p : Int → Bool} : ∀ (m : Nat) (a k : Int), a < 0 → nth p m a k = -1
  | 0, _, _, _ => rfl
  | m + 1, a, k, h => by
    rw [nth, nth_neg m (a - 1) (k + 1) (by omega), nth_neg m a (k + 1) h, if_neg (by omega : ¬ a = 0)]
    split <;> rfl
theorem nth_none {p : Int → Bool} : ∀ (m : Nat) (a k : Int), (∀ i, k ≤ i → i < k + m → p i = false) → nth p m a k = -1
  | 0, _, _, _ => rfl
  | m + 1, a, k, h => by
    rw [nth, h k (by omega) (by omega), nth_none m a (k + 1) (fun i a b => h i (by omega) (by omega))]
    simp
section CNT
variable {B : BkT} {N : NtT} {σ τ : St} {q : Int} {F : Nat}
theorem m_agentMany (hM : ∀ n, 0 ≤ n → n < 400 → τ.1 12 n.toNat = I (Nk N n)) (hV : ∀ n, 0 ≤ n → n < 400 → -1 ≤ Nk N n ∧ Nk N n < 16) (hF : 10000 ≤ F) : f_X12_agentMany F τ = some (I (Ncn N)) := by
  unfold f_X12_agentMany
  have := cnt_loop (L := f_X12_agentMany_L4 F τ) (p := fun n => decide (0 ≤ Nk N n)) (c := 400) (by
    intro n v j hj
    rw [f_X12_agentMany_L4]
    have e := hM j (by omega) (by omega)
    have b := hV j (by omega) (by omega)
    by_cases h : 0 ≤ Nk N j
    · simp (maxSteps := 4000000) (disch := omega) only [I_lits, nz, nc, if_pos, if_neg, if_true, if_false, Option.bind_some, true_and, and_true, and_self, or_true, true_or, or_false, false_or, not_true_eq_false, not_false_eq_true, false_and, and_false, Bool.false_eq_true, decide_true, decide_false, eq_self, e, h, decide_true]
    · simp (maxSteps := 4000000) (disch := omega) only [I_lits, nz, nc, if_pos, if_neg, if_true, if_false, Option.bind_some, true_and, and_true, and_self, or_true, true_or, or_false, false_or, not_true_eq_false, not_false_eq_true, false_and, and_false, Bool.false_eq_true, decide_true, decide_false, eq_self, e, h, decide_false, Bool.false_eq_true]) (by
    intro n v
    rw [f_X12_agentMany_L4]
    simp (maxSteps := 4000000) (disch := omega) only [I_lits, nz, nc, if_pos, if_neg, if_true, if_false, Option.bind_some, true_and, and_true, and_self, or_true, true_or, or_false, false_or, not_true_eq_false, not_false_eq_true, false_and, and_false, Bool.false_eq_true, decide_true, decide_false, eq_self]
    try rfl) F 0 (by omega) (by omega)
  rw [show f_X12_agentMany_L4 F τ F 0 0 = some (I (Ncn N)) from this]
  rfl
theorem b16 (hK : KdV B) (hV : NetV B N) : ∀ n, 0 ≤ n → n < 400 → -1 ≤ Nk N n ∧ Nk N n < 16 := fun n h0 h1 => by
  have := hV.2.2.1 n h0 h1
  have := hK.2.1
  omega
theorem prs_top (hK : KdV B) (hV : NetV B N) {n : Int} {al : Bool} (h0 : 0 ≤ n) (h : Nk N n = -1) : prs B N al n = false := by
  unfold prs mate
  rw [if_neg (by omega), show decide (n < -1) = false from decide_eq_false (by omega)]
  rfl
theorem m_pairs (hK : KdV B) (hR : RuV B) (hV : NetV B N) (hB : BkM B τ) (hM : NtM B N τ) (al : Bool) (hF : 10000 ≤ F) : f_X12_pairs F (if al then 1 else 0) τ = some (I (cnt (prs B N al) 400)) := by
  unfold f_X12_pairs
  have := cnt_loop (L := f_X12_pairs_L4 F (if al then 1 else 0) τ) (p := prs B N al) (c := 400) (by
    intro n v j hj
    rw [f_X12_pairs_L4, m_isPair hK hR hV hB hM (by omega) (by omega)]
    by_cases h : prs B N al j = true
    · simp (maxSteps := 4000000) (disch := omega) only [I_lits, nz, nc, if_pos, if_neg, if_true, if_false, Option.bind_some, true_and, and_true, and_self, or_true, true_or, or_false, false_or, not_true_eq_false, not_false_eq_true, false_and, and_false, Bool.false_eq_true, decide_true, decide_false, eq_self, h]
    · simp (maxSteps := 4000000) (disch := omega) only [I_lits, nz, nc, if_pos, if_neg, if_true, if_false, Option.bind_some, true_and, and_true, and_self, or_true, true_or, or_false, false_or, not_true_eq_false, not_false_eq_true, false_and, and_false, Bool.false_eq_true, decide_true, decide_false, eq_self, h]) (by
    intro n v
    rw [f_X12_pairs_L4]
    simp (maxSteps := 4000000) (disch := omega) only [I_lits, nz, nc, if_pos, if_neg, if_true, if_false, Option.bind_some, true_and, and_true, and_self, or_true, true_or, or_false, false_or, not_true_eq_false, not_false_eq_true, false_and, and_false, Bool.false_eq_true, decide_true, decide_false, eq_self]
    try rfl) F 0 (by omega) (by omega)
  rw [show f_X12_pairs_L4 F (if al then 1 else 0) τ F 0 0 = _ from this]
  rfl
theorem c_countPairs (hK : KdV B) (hR : RuV B) (hV : NetV B N) (hB : BkC B σ 64) (hC : NtC B N σ 77) (al : Bool) (hF : 10000 ≤ F) : f_X0_countPairs F (if al then 1 else 0) σ = some (I (cnt (prs B N al) 400)) := by
  unfold f_X0_countPairs
  obtain ⟨t, t0, t1, t2, t3⟩ := hC.2.2.2.2.2.2
  have := cnt_loop (L := f_X0_countPairs_L4 F (if al then 1 else 0) σ) (p := prs B N al) (c := t.toNat) (by
    intro n v j hj
    rw [f_X0_countPairs_L4, c_isPair hK hR hV hB hC (by omega) (by omega), t2]
    by_cases h : prs B N al j = true
    · simp (maxSteps := 4000000) (disch := omega) only [I_lits, nz, nc, if_pos, if_neg, if_true, if_false, Option.bind_some, true_and, and_true, and_self, or_true, true_or, or_false, false_or, not_true_eq_false, not_false_eq_true, false_and, and_false, Bool.false_eq_true, decide_true, decide_false, eq_self, h]
    · simp (maxSteps := 4000000) (disch := omega) only [I_lits, nz, nc, if_pos, if_neg, if_true, if_false, Option.bind_some, true_and, and_true, and_self, or_true, true_or, or_false, false_or, not_true_eq_false, not_false_eq_true, false_and, and_false, Bool.false_eq_true, decide_true, decide_false, eq_self, h, I_add0]) (by
    intro n v
    rw [f_X0_countPairs_L4, t2, show ((t.toNat : Nat) : Int) = t by omega]
    simp (maxSteps := 4000000) (disch := omega) only [I_lits, nz, nc, if_pos, if_neg, if_true, if_false, Option.bind_some, true_and, and_true, and_self, or_true, true_or, or_false, false_or, not_true_eq_false, not_false_eq_true, false_and, and_false, Bool.false_eq_true, decide_true, decide_false, eq_self, Int.lt_irrefl]) F 0 (by omega) (by omega)
  rw [show f_X0_countPairs_L4 F (if al then 1 else 0) σ F 0 0 = _ from this]
  rw [cnt_top 400 t.toNat (by omega) (fun i a b => prs_top hK hV (by omega) (t3 i (by omega) (by omega)))]
  rfl
theorem m_pair_L (hK : KdV B) (hR : RuV B) (hV : NetV B N) (hB : BkM B τ) (hM : NtM B N τ) : ∀ (n m : Nat) (a k : Int), 0 ≤ k → k + m = 400 → m < n → -2147483648 ≤ a + k → a < 2147483648 → f_X12_pair_L4 F τ n (I a) (I k) = some (I (nth (prs B N true) m a k)) := by
  intro n
  induction n with
  | zero => intro m a k h0 h1 h2; omega
  | succ n ih =>
    intro m a k h0 h1 h2 h3 h4
    rw [f_X12_pair_L4]
    cases m with
    | zero =>
      simp (maxSteps := 4000000) (disch := omega) only [I_lits, nz, nc, if_pos, if_neg, if_true, if_false, Option.bind_some, true_and, and_true, and_self, or_true, true_or, or_false, false_or, not_true_eq_false, not_false_eq_true, false_and, and_false, Bool.false_eq_true, decide_true, decide_false, eq_self]
      rfl
    | succ m =>
      have e : f_X12_isPair (I k) (I 1) τ = some (I (if prs B N true k = true then 1 else 0)) := m_isPair hK hR hV hB hM (n := k) (by omega) (by omega) true
      simp (maxSteps := 4000000) (disch := omega) only [I_lits, nz, nc, if_pos, if_neg, if_true, if_false, Option.bind_some, true_and, and_true, and_self, or_true, true_or, or_false, false_or, not_true_eq_false, not_false_eq_true, false_and, and_false, Bool.false_eq_true, decide_true, decide_false, eq_self, e]
      have e1 := ih m a (k + 1) (by omega) (by omega) (by omega) (by omega) (by omega)
      have e2 := ih m (a - 1) (k + 1) (by omega) (by omega) (by omega) (by omega) (by omega)
      rw [nth]
      by_cases h : prs B N true k = true
      · simp (maxSteps := 4000000) (disch := omega) only [I_lits, nz, nc, if_pos, if_neg, if_true, if_false, Option.bind_some, true_and, and_true, and_self, or_true, true_or, or_false, false_or, not_true_eq_false, not_false_eq_true, false_and, and_false, Bool.false_eq_true, decide_true, decide_false, eq_self, h, i01, I_eq0, e2, show a + -1 = a - 1 from by omega]
        by_cases ha : a = 0
        · rw [if_pos ha, if_pos ha]
        · rw [if_neg ha, if_neg ha]
      · simp (maxSteps := 4000000) (disch := omega) only [I_lits, nz, nc, if_pos, if_neg, if_true, if_false, Option.bind_some, true_and, and_true, and_self, or_true, true_or, or_false, false_or, not_true_eq_false, not_false_eq_true, false_and, and_false, Bool.false_eq_true, decide_true, decide_false, eq_self, h, e1]
theorem m_pair (hK : KdV B) (hR : RuV B) (hV : NetV B N) (hB : BkM B τ) (hM : NtM B N τ) (hF : 10000 ≤ F) {a : Int} (h3 : -2147483648 ≤ a) (h4 : a < 2147483648) : f_X12_pair F (I a) τ = some (I (nth (prs B N true) 400 a 0)) := by
  unfold f_X12_pair
  exact m_pair_L hK hR hV hB hM F 400 a 0 (by omega) (by omega) (by omega) (by omega) (by omega)
theorem c_pair_L (hK : KdV B) (hR : RuV B) (hV : NetV B N) (hB : BkC B σ 64) (hC : NtC B N σ 77) : ∀ (n m : Nat) (a k : Int), 0 ≤ k → k + m = 400 → m < n → -2147483648 ≤ a → a < 2147483648 → f_X0_alivePairAt_L4 F σ n (I a) (I k) = some (I (nth (prs B N true) m a k)) := by
  intro n
  obtain ⟨t, t0, t1, t2, t3⟩ := hC.2.2.2.2.2.2
  induction n with
  | zero => intro m a k h0 h1 h2; omega
  | succ n ih =>
    intro m a k h0 h1 h2 h3 h4
    rw [f_X0_alivePairAt_L4, t2]
    by_cases hc : k < t ∧ 0 ≤ a
    · cases m with
      | zero => omega
      | succ m =>
        have e : f_X0_isPair (I k) (I 1) σ = some (I (if prs B N true k = true then 1 else 0)) := c_isPair hK hR hV hB hC (n := k) (by omega) (by omega) true
        simp (maxSteps := 4000000) (disch := omega) only [I_lits, nz, nc, if_pos, if_neg, if_true, if_false, Option.bind_some, true_and, and_true, and_self, or_true, true_or, or_false, false_or, not_true_eq_false, not_false_eq_true, false_and, and_false, Bool.false_eq_true, decide_true, decide_false, eq_self, e, hc.1, hc.2]
        have e1 := ih m a (k + 1) (by omega) (by omega) (by omega) (by omega) (by omega)
        rw [nth]
        by_cases h : prs B N true k = true
        · simp (maxSteps := 4000000) (disch := omega) only [I_lits, nz, nc, if_pos, if_neg, if_true, if_false, Option.bind_some, true_and, and_true, and_self, or_true, true_or, or_false, false_or, not_true_eq_false, not_false_eq_true, false_and, and_false, Bool.false_eq_true, decide_true, decide_false, eq_self, h, i01]
          by_cases ha : a = 0
          · rw [if_pos ha, if_pos ha]
          · rw [if_neg ha, if_neg ha, show a + -1 = a - 1 from by omega]
            exact ih m (a - 1) (k + 1) (by omega) (by omega) (by omega) (by omega) (by omega)
        · simp (maxSteps := 4000000) (disch := omega) only [I_lits, nz, nc, if_pos, if_neg, if_true, if_false, Option.bind_some, true_and, and_true, and_self, or_true, true_or, or_false, false_or, not_true_eq_false, not_false_eq_true, false_and, and_false, Bool.false_eq_true, decide_true, decide_false, eq_self, h, e1]
    · simp (maxSteps := 4000000) (disch := omega) only [I_lits, nz, nc, if_pos, if_neg, if_true, if_false, Option.bind_some, true_and, and_true, and_self, or_true, true_or, or_false, false_or, not_true_eq_false, not_false_eq_true, false_and, and_false, Bool.false_eq_true, decide_true, decide_false, eq_self, hc]
      by_cases ha : a < 0
      · rw [nth_neg m a k ha]
      · rw [nth_none m a k (fun i x y => prs_top hK hV (by omega) (t3 i (by omega) (by omega)))]
theorem c_pair (hK : KdV B) (hR : RuV B) (hV : NetV B N) (hB : BkC B σ 64) (hC : NtC B N σ 77) (hF : 10000 ≤ F) {a : Int} (h3 : -2147483648 ≤ a) (h4 : a < 2147483648) : f_X0_alivePairAt F (I a) σ = some (I (nth (prs B N true) 400 a 0)) := by
  unfold f_X0_alivePairAt
  exact c_pair_L hK hR hV hB hC F 400 a 0 (by omega) (by omega) (by omega) (by omega) (by omega)
theorem op_pair (h : Sim σ τ q) (hF : 10000 ≤ F) (p : Int32) : Op1 (f_X11_pair F p σ) (f_X12_pair F p τ) := by
  obtain ⟨B, N, ⟨hK, hR, hV, hBC, hBM, hNC, hNM⟩, h2⟩ := h
  obtain ⟨z, rfl, z1, z2⟩ := I_ex p
  unfold f_X11_pair
  rw [c_pair hK hR hV hBC hNC hF z1 z2, m_pair hK hR hV hBM hNM hF z1 z2]
  exact ⟨_, rfl, rfl⟩
theorem c_countOfKind {b : Nat} (hC : NtC B N σ b) (hV : ∀ n, 0 ≤ n → n < 400 → -1 ≤ Nk N n ∧ Nk N n < 16) (hF : 10000 ≤ F) {k : Int} (h0 : 0 ≤ k) (h1 : k < 16) : f_X4_countOfKind F b (I k) σ = some (I (cnt (fun n => decide (Nk N n = k)) 400)) := by
  unfold f_X4_countOfKind
  obtain ⟨t, t0, t1, t2, t3⟩ := hC.2.2.2.2.2.2
  have := cnt_loop (L := f_X4_countOfKind_L4 F b (I k) σ) (p := fun n => decide (Nk N n = k)) (c := t.toNat) (by
    intro n v j hj
    have e := hC.1 j (by omega) (by omega)
    have bb := hV j (by omega) (by omega)
    rw [f_X4_countOfKind_L4, t2]
    by_cases h : Nk N j = k
    · simp (maxSteps := 4000000) (disch := omega) only [I_lits, nz, nc, if_pos, if_neg, if_true, if_false, Option.bind_some, true_and, and_true, and_self, or_true, true_or, or_false, false_or, not_true_eq_false, not_false_eq_true, false_and, and_false, Bool.false_eq_true, decide_true, decide_false, eq_self, e, h, decide_true]
    · simp (maxSteps := 4000000) (disch := omega) only [I_lits, nz, nc, if_pos, if_neg, if_true, if_false, Option.bind_some, true_and, and_true, and_self, or_true, true_or, or_false, false_or, not_true_eq_false, not_false_eq_true, false_and, and_false, Bool.false_eq_true, decide_true, decide_false, eq_self, e, h, I_add0, decide_false, Bool.false_eq_true]) (by
    intro n v
    rw [f_X4_countOfKind_L4, t2, show ((t.toNat : Nat) : Int) = t by omega]
    simp (maxSteps := 4000000) (disch := omega) only [I_lits, nz, nc, if_pos, if_neg, if_true, if_false, Option.bind_some, true_and, and_true, and_self, or_true, true_or, or_false, false_or, not_true_eq_false, not_false_eq_true, false_and, and_false, Bool.false_eq_true, decide_true, decide_false, eq_self, Int.lt_irrefl]) F 0 (by omega) (by omega)
  rw [show f_X4_countOfKind_L4 F b (I k) σ F 0 0 = _ from this]
  rw [cnt_top 400 t.toNat (by omega) (fun i a b => by
    have := t3 i (by omega) (by omega)
    exact decide_eq_false (by omega))]
  rfl
theorem op_kind (h : Sim σ τ q) (hF : 10000 ≤ F) (p p' : Int32) : Op1 (f_X11_kind F p p' σ) (f_X12_kind F p p' τ) := by
  obtain ⟨B, N, ⟨hK, hR, hV, hBC, hBM, hNC, hNM⟩, h2⟩ := h
  obtain ⟨z, rfl, z1, z2⟩ := I_ex p
  obtain ⟨y, rfl, y1, y2⟩ := I_ex p'
  unfold f_X11_kind f_X12_kind f_X3_hasPort f_X3_sortOf
  have h0 := hK.1
  have h16 := hK.2.1
  rw [c_kHas hBC hK z1 z2, x12_in, x12_in, hBM.1.1]
  simp (maxSteps := 4000000) (disch := omega) only [I_lits, nz, nc, x64, Int32.toInt_toInt64, I_toInt z1 z2, I_toInt y1 y2, I_toInt (show -2147483648 ≤ Bkn B - 1 by omega) (show Bkn B - 1 < 2147483648 by omega)]
  by_cases hz : (0 ≤ z ∧ z < Bkn B)
  · rw [if_pos hz, if_pos (show 0 ≤ z ∧ z ≤ Bkn B - 1 by omega)]
    by_cases hy : 0 ≤ y ∧ y ≤ 6
    · rw [if_pos (show 0 ≤ y ∧ ¬ 6 < y by omega), if_pos hy]
      have hp := hK.2.2.1 z hz.1 hz.2
      have e1 := c_portsOf hBC hK z1 z2
      rw [if_pos hz] at e1
      have e2 := c_countOfKind hNC (b16 hK hV) hF (k := z) hz.1 (by omega)
      have e3 : f_X12_kind_L41 F (I z) (I y) τ F (I 0) (I 0) = some (I (cnt (fun n => decide (Nk N n = z)) 400)) := by
        have := cnt_loop (L := f_X12_kind_L41 F (I z) (I y) τ) (p := fun n => decide (Nk N n = z)) (c := 400) (by
          intro n v j hj
          have e := hNM.1 j (by omega) (by omega)
          have bb := b16 hK hV j (by omega) (by omega)
          rw [f_X12_kind_L41]
          by_cases h : Nk N j = z
          · simp (maxSteps := 4000000) (disch := omega) only [I_lits, nz, nc, if_pos, if_neg, if_true, if_false, Option.bind_some, true_and, and_true, and_self, or_true, true_or, or_false, false_or, not_true_eq_false, not_false_eq_true, false_and, and_false, Bool.false_eq_true, decide_true, decide_false, eq_self, e, h, decide_true]
          · simp (maxSteps := 4000000) (disch := omega) only [I_lits, nz, nc, if_pos, if_neg, if_true, if_false, Option.bind_some, true_and, and_true, and_self, or_true, true_or, or_false, false_or, not_true_eq_false, not_false_eq_true, false_and, and_false, Bool.false_eq_true, decide_true, decide_false, eq_self, e, h, decide_false, Bool.false_eq_true]) (by
          intro n v
          rw [f_X12_kind_L41]
          simp (maxSteps := 4000000) (disch := omega) only [I_lits, nz, nc, if_pos, if_neg, if_true, if_false, Option.bind_some, true_and, and_true, and_self, or_true, true_or, or_false, false_or, not_true_eq_false, not_false_eq_true, false_and, and_false, Bool.false_eq_true, decide_true, decide_false, eq_self]
          try rfl) F 0 (by omega) (by omega)
        exact this
      have e4 := hBM.1.2.2.1 z hz.1 hz.2
      simp (maxSteps := 4000000) (disch := omega) only [I_lits, nz, nc, if_pos, if_neg, if_true, if_false, Option.bind_some, true_and, and_true, and_self, or_true, true_or, or_false, false_or, not_true_eq_false, not_false_eq_true, false_and, and_false, Bool.false_eq_true, decide_true, decide_false, eq_self, i01, e1, e2, e3, e4]
      by_cases y0 : y = 0
      · simp (maxSteps := 4000000) (disch := omega) only [I_lits, nz, nc, if_pos, if_neg, if_true, if_false, Option.bind_some, true_and, and_true, and_self, or_true, true_or, or_false, false_or, not_true_eq_false, not_false_eq_true, false_and, and_false, Bool.false_eq_true, decide_true, decide_false, eq_self, y0]
        exact ⟨_, rfl, rfl⟩
      · by_cases y1' : y = 1
        · simp (maxSteps := 4000000) (disch := omega) only [I_lits, nz, nc, if_pos, if_neg, if_true, if_false, Option.bind_some, true_and, and_true, and_self, or_true, true_or, or_false, false_or, not_true_eq_false, not_false_eq_true, false_and, and_false, Bool.false_eq_true, decide_true, decide_false, eq_self, y1', y0]
          exact ⟨_, rfl, rfl⟩
        · simp (maxSteps := 4000000) (disch := omega) only [I_lits, nz, nc, if_pos, if_neg, if_true, if_false, Option.bind_some, true_and, and_true, and_self, or_true, true_or, or_false, false_or, not_true_eq_false, not_false_eq_true, false_and, and_false, Bool.false_eq_true, decide_true, decide_false, eq_self, y0, y1']
          by_cases hpp : y - 2 < Bpt B z
          · have e5 := hBC.1.2.2.2 z (y - 2) hz.1 hz.2 (by omega) hpp
            have e6 := hBM.1.2.2.2 z (y - 2) hz.1 hz.2 (by omega) hpp
            have hs := hK.2.2.2 z (y - 2) hz.1 hz.2 (by omega) hpp
            simp (maxSteps := 4000000) (disch := omega) only [I_lits, nz, nc, if_pos, if_neg, if_true, if_false, Option.bind_some, true_and, and_true, and_self, or_true, true_or, or_false, false_or, not_true_eq_false, not_false_eq_true, false_and, and_false, Bool.false_eq_true, decide_true, decide_false, eq_self, hpp, i01, e6.1, e6.2]
            rw [show z * 5 + (y - 2) = 5 * z + (y - 2) by omega, e5]
            by_cases hso : 0 ≤ Bso B (5 * z + (y - 2))
            · simp (maxSteps := 4000000) (disch := omega) only [I_lits, nz, nc, if_pos, if_neg, if_true, if_false, Option.bind_some, true_and, and_true, and_self, or_true, true_or, or_false, false_or, not_true_eq_false, not_false_eq_true, false_and, and_false, Bool.false_eq_true, decide_true, decide_false, eq_self, hso, i01]
              exact ⟨_, rfl, rfl⟩
            · simp (maxSteps := 4000000) (disch := omega) only [I_lits, nz, nc, if_pos, if_neg, if_true, if_false, Option.bind_some, true_and, and_true, and_self, or_true, true_or, or_false, false_or, not_true_eq_false, not_false_eq_true, false_and, and_false, Bool.false_eq_true, decide_true, decide_false, eq_self, hso]
              refine ⟨_, rfl, ?_⟩
              congr 2
              omega
          · simp (maxSteps := 4000000) (disch := omega) only [I_lits, nz, nc, if_pos, if_neg, if_true, if_false, Option.bind_some, true_and, and_true, and_self, or_true, true_or, or_false, false_or, not_true_eq_false, not_false_eq_true, false_and, and_false, Bool.false_eq_true, decide_true, decide_false, eq_self, hpp]
            exact ⟨_, rfl, rfl⟩
    · rw [if_neg (show ¬ (0 ≤ y ∧ ¬ 6 < y) by omega), if_neg hy]
      simp (maxSteps := 4000000) (disch := omega) only [I_lits, nz, nc, if_pos, if_neg, if_true, if_false, Option.bind_some, true_and, and_true, and_self, or_true, true_or, or_false, false_or, not_true_eq_false, not_false_eq_true, false_and, and_false, Bool.false_eq_true, decide_true, decide_false, eq_self, i01]
      exact ⟨_, rfl, rfl⟩
  · simp (maxSteps := 4000000) (disch := omega) only [I_lits, nz, nc, if_pos, if_neg, if_true, if_false, Option.bind_some, true_and, and_true, and_self, or_true, true_or, or_false, false_or, not_true_eq_false, not_false_eq_true, false_and, and_false, Bool.false_eq_true, decide_true, decide_false, eq_self, hz, show ¬ (0 ≤ z ∧ z ≤ Bkn B - 1) from by omega]
    exact ⟨_, rfl, rfl⟩
end CNT
