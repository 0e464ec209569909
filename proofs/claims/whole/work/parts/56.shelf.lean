/-! trace, shelves, feed -/
theorem and255 (x : Int32) : ∃ c : Int, 0 ≤ c ∧ c < 256 ∧ x &&& (255 : Int32) = I c := by
  refine ⟨(x.toBitVec.toNat % 256 : Nat), by omega, by omega, ?_⟩
  apply Int32.toBitVec.inj
  apply BitVec.eq_of_toNat_eq
  rw [Int32.toBitVec_and, BitVec.toNat_and, I_bv (by omega) (by omega)]
  have : (255 : Int32).toBitVec.toNat = 2 ^ 8 - 1 := by decide
  rw [this, Nat.and_two_pow_sub_one_eq_mod]
  omega
theorem floorMod50 {a : Int} (h0 : 0 ≤ a) (h1 : a < 2147483648) : f_J9_floorMod_7cf53 (I a) (I 50) = some (I (a % 50)) := by
  unfold f_J9_floorMod_7cf53
  have hx : ¬ (I a ^^^ I 50 < I 0) := by
    rw [show I 0 = (0 : Int32) from rfl, Int32.not_lt, Int32.le_iff_toInt_le]
    show (0 : Int32).toInt ≤ (I a ^^^ I 50).toInt
    rw [show (0 : Int32).toInt = 0 from rfl, ← Int32.toInt_toBitVec, Int32.toBitVec_xor]
    have m1 : (I a).toBitVec.msb = false := by
      rw [BitVec.msb_eq_false_iff_two_mul_lt, I_bv h0 h1]; omega
    have m2 : (I 50).toBitVec.msb = false := by decide
    rw [BitVec.toInt_eq_toNat_of_msb (by rw [BitVec.msb_xor, m1, m2]; rfl)]
    omega
  simp (maxSteps := 4000000) (disch := omega) only [I_lits, nz, nc, if_pos, if_neg, if_true, if_false, Option.bind_some, true_and, and_true, and_self, or_true, true_or, or_false, false_or, not_true_eq_false, not_false_eq_true, false_and, and_false, Bool.false_eq_true, decide_true, decide_false, eq_self, hx]
  congr 2
  omega
section SHF
variable {B : BkT} {N : NtT} {σ τ : St} {q : Int} {F : Nat}
theorem op_trace (h : Sim σ τ q) (hq : q < 2147483648) (p : Int32) : Op1 (f_X11_trace p σ) (f_X12_trace p τ) := by
  obtain ⟨B, N, h1, h2, h3, ⟨n, m, jm, j0, j1, j2, j3, j4, j5, j6, j7, j8, j9, j10, j11, j12⟩, h5⟩ := h
  obtain ⟨z, rfl, z1, z2⟩ := I_ex p
  unfold f_X11_trace f_X12_trace f_X2_recentStep f_J9_min_7cf53 f_X11_isInside
  rw [j2, j4]
  by_cases hn : n < 50
  · simp (maxSteps := 4000000) (disch := omega) only [I_lits, nz, nc, hn, if_true, x12_in, x64, Int32.toInt_toInt64, I_toInt z1 z2, I_toInt (show -2147483648 ≤ n - 1 by omega) (show n - 1 < 2147483648 by omega), show n ≤ 50 from by omega, Option.bind_some]
    by_cases hz : 0 ≤ z ∧ z < n
    · have := j12 (n - 1 - z) (by omega) (by omega) (by omega)
      simp (maxSteps := 4000000) (disch := omega) only [I_lits, nz, nc, if_pos, if_neg, if_true, if_false, Option.bind_some, true_and, and_true, and_self, or_true, true_or, or_false, false_or, not_true_eq_false, not_false_eq_true, false_and, and_false, Bool.false_eq_true, decide_true, decide_false, eq_self, hz.1, hz.2, i01, floorMod50, show z ≤ n - 1 from by omega]
      rw [show (n - 1 - z) % 50 = n - 1 - z by omega, show n - 1 - z - (n - 1 - z) / 50 * 50 = n - 1 - z by omega, this]
      exact ⟨_, rfl, rfl⟩
    · simp (maxSteps := 4000000) (disch := omega) only [I_lits, nz, nc, if_pos, if_neg, if_true, if_false, Option.bind_some, true_and, and_true, and_self, or_true, true_or, or_false, false_or, not_true_eq_false, not_false_eq_true, false_and, and_false, Bool.false_eq_true, decide_true, decide_false, eq_self, hz, show ¬ (0 ≤ z ∧ z ≤ n - 1) from by omega]
      exact ⟨_, rfl, rfl⟩
  · by_cases h50 : n ≤ 50
    · simp (maxSteps := 4000000) (disch := omega) only [I_lits, nz, nc, hn, h50, if_true, if_false, x12_in, x64, Int32.toInt_toInt64, I_toInt z1 z2, I_toInt (show -2147483648 ≤ (50 : Int) - 1 by omega) (show (50 : Int) - 1 < 2147483648 by omega), Option.bind_some]
      by_cases hz : 0 ≤ z ∧ z < n
      · have := j12 ((n - 1 - z) % 50) (by omega) (by omega) (by omega)
        simp (maxSteps := 4000000) (disch := omega) only [I_lits, nz, nc, if_pos, if_neg, if_true, if_false, Option.bind_some, true_and, and_true, and_self, or_true, true_or, or_false, false_or, not_true_eq_false, not_false_eq_true, false_and, and_false, Bool.false_eq_true, decide_true, decide_false, eq_self, hz.1, hz.2, i01, floorMod50, show z ≤ 50 - 1 from by omega]
        rw [show n - 1 - z - (n - 1 - z) / 50 * 50 = (n - 1 - z) % 50 by omega, this]
        exact ⟨_, rfl, rfl⟩
      · simp (maxSteps := 4000000) (disch := omega) only [I_lits, nz, nc, if_pos, if_neg, if_true, if_false, Option.bind_some, true_and, and_true, and_self, or_true, true_or, or_false, false_or, not_true_eq_false, not_false_eq_true, false_and, and_false, Bool.false_eq_true, decide_true, decide_false, eq_self, hz, show ¬ (0 ≤ z ∧ z ≤ 50 - 1) from by omega]
        exact ⟨_, rfl, rfl⟩
    · simp (maxSteps := 4000000) (disch := omega) only [I_lits, nz, nc, hn, h50, if_true, if_false, x12_in, x64, Int32.toInt_toInt64, I_toInt z1 z2, I_toInt (show -2147483648 ≤ (50 : Int) - 1 by omega) (show (50 : Int) - 1 < 2147483648 by omega), Option.bind_some]
      by_cases hz : 0 ≤ z ∧ z < 50
      · have := j12 ((n - 1 - z) % 50) (by omega) (by omega) (by omega)
        simp (maxSteps := 4000000) (disch := omega) only [I_lits, nz, nc, if_pos, if_neg, if_true, if_false, Option.bind_some, true_and, and_true, and_self, or_true, true_or, or_false, false_or, not_true_eq_false, not_false_eq_true, false_and, and_false, Bool.false_eq_true, decide_true, decide_false, eq_self, hz.1, hz.2, i01, floorMod50, show z ≤ 50 - 1 from by omega]
        rw [show n - 1 - z - (n - 1 - z) / 50 * 50 = (n - 1 - z) % 50 by omega, this]
        exact ⟨_, rfl, rfl⟩
      · simp (maxSteps := 4000000) (disch := omega) only [I_lits, nz, nc, if_pos, if_neg, if_true, if_false, Option.bind_some, true_and, and_true, and_self, or_true, true_or, or_false, false_or, not_true_eq_false, not_false_eq_true, false_and, and_false, Bool.false_eq_true, decide_true, decide_false, eq_self, hz, show ¬ (0 ≤ z ∧ z ≤ 50 - 1) from by omega]
        exact ⟨_, rfl, rfl⟩
/-- a loop that copies row a into row b from place d on -/
theorem copy_loop {L : Nat → Int32 → St → Option St} {a b d c : Nat} (hab : a ≠ b) (hL : ∀ (n : Nat) (j : Nat) (g : St), j < c → L (n + 1) (I j) g = L n (I ((j + 1 : Nat) : Int)) (seti g b (d + j) (g.1 a j))) (hE : ∀ n g, L (n + 1) (I c) g = some g) : ∀ (n j : Nat) (g : St), j ≤ c → c - j < n → ∃ g', L n (I j) g = some g' ∧ g'.2 = g.2 ∧ (∀ k, k ≠ b → g'.1 k = g.1 k) ∧ ∀ i, g'.1 b i = if d + j ≤ i ∧ i < d + c then g.1 a (i - d) else g.1 b i := by
  intro n
  induction n with
  | zero => intro j g h1 h2; omega
  | succ n ih =>
    intro j g h1 h2
    by_cases h : j = c
    · subst h
      exact ⟨g, hE n g, rfl, fun _ _ => rfl, fun i => by rw [if_neg (by omega)]⟩
    · rw [hL n j g (by omega)]
      obtain ⟨g', e1, e2, e3, e4⟩ := ih (j + 1) (seti g b (d + j) (g.1 a j)) (by omega) (by omega)
      refine ⟨g', e1, e2, fun k hk => by rw [e3 k hk, seti_r hk], fun i => ?_⟩
      rw [e4 i, seti_r hab, seti1]
      by_cases hi : d + (j + 1) ≤ i ∧ i < d + c
      · rw [if_pos hi, if_pos (by omega)]
      · rw [if_neg hi]
        by_cases hi2 : i = d + j
        · rw [if_pos ⟨rfl, hi2⟩, if_pos (by omega), hi2, Nat.add_sub_cancel_left]
        · rw [if_neg (fun q => hi2 q.2), if_neg (by omega)]
/-- the same, from place d of row a on into row b -/
theorem copy_loop' {L : Nat → Int32 → St → Option St} {a b d c : Nat} (hab : a ≠ b) (hL : ∀ (n : Nat) (j : Nat) (g : St), j < c → L (n + 1) (I j) g = L n (I ((j + 1 : Nat) : Int)) (seti g b j (g.1 a (d + j)))) (hE : ∀ n g, L (n + 1) (I c) g = some g) : ∀ (n j : Nat) (g : St), j ≤ c → c - j < n → ∃ g', L n (I j) g = some g' ∧ g'.2 = g.2 ∧ (∀ k, k ≠ b → g'.1 k = g.1 k) ∧ ∀ i, g'.1 b i = if j ≤ i ∧ i < c then g.1 a (d + i) else g.1 b i := by
  intro n
  induction n with
  | zero => intro j g h1 h2; omega
  | succ n ih =>
    intro j g h1 h2
    by_cases h : j = c
    · subst h
      exact ⟨g, hE n g, rfl, fun _ _ => rfl, fun i => by rw [if_neg (by omega)]⟩
    · rw [hL n j g (by omega)]
      obtain ⟨g', e1, e2, e3, e4⟩ := ih (j + 1) (seti g b j (g.1 a (d + j))) (by omega) (by omega)
      refine ⟨g', e1, e2, fun k hk => by rw [e3 k hk, seti_r hk], fun i => ?_⟩
      rw [e4 i, seti_r hab, seti1]
      by_cases hi : j + 1 ≤ i ∧ i < c
      · rw [if_pos hi, if_pos (by omega)]
      · rw [if_neg hi]
        by_cases hi2 : i = j
        · rw [if_pos ⟨rfl, hi2⟩, if_pos (by omega), hi2]
        · rw [if_neg (fun q => hi2 q.2), if_neg (by omega)]
end SHF
