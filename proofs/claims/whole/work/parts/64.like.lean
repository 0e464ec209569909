/-! reached, like -/
section LIK
variable {B : BkT} {N N' : NtT} {σ τ σ0 τ0 : St} {q : Int} {F : Nat} {a b : Nat} {c s : Int}
theorem m_fillrank (hc : c = 0 ∨ c = 1) (y : Int32) : ∀ (n j : Nat) (g : St), j ≤ 400 → 400 - j < n → ∃ g', f_X12_reach_L9 F (I c) y n (I j) g = some g' ∧ g'.2 = g.2 ∧ (∀ k, k ≠ 50 → g'.1 k = g.1 k) ∧ ∀ i : Nat, g'.1 50 i = if 400 * c + j ≤ i ∧ i < 400 * c + 400 then I (-1) else g.1 50 i := by
  intro n
  induction n with
  | zero => intro j g h1 h2; omega
  | succ n ih =>
    intro j g h1 h2
    rw [f_X12_reach_L9]
    by_cases h : j = 400
    · rw [if_neg (by
        rw [h]
        exact Int32.lt_irrefl)]
      exact ⟨g, rfl, rfl, fun _ _ => rfl, fun i => by rw [if_neg (by omega)]⟩
    · simp (maxSteps := 4000000) (disch := omega) only [I_lits, nz, nc, if_pos, if_neg, if_true, if_false, Option.bind_some, true_and, and_true, and_self, or_true, true_or, or_false, false_or, not_true_eq_false, not_false_eq_true, false_and, and_false, Bool.false_eq_true, decide_true, decide_false, eq_self]
      obtain ⟨g', e1, e2, e3, e4⟩ := ih (j + 1) (seti g 50 (400 * c + (j : Int)).toNat (I (-1))) (by omega) (by omega)
      refine ⟨g', e1, e2, fun k hk => by rw [e3 k hk, seti_r hk], fun i => ?_⟩
      rw [e4 i, seti1]
      by_cases hi : 400 * c + ((j + 1 : Nat) : Int) ≤ i ∧ (i : Int) < 400 * c + 400
      · rw [if_pos hi, if_pos (by omega)]
      · rw [if_neg hi]
        by_cases hi2 : (i : Int) = 400 * c + j
        · rw [if_pos (by omega), if_pos (by omega)]
        · rw [if_neg (by omega), if_neg (by omega)]
theorem s_reach (hK : KdV B) (hV : NetV B N) (hC : NtC B N σ b) (hBC : BkC B σ 64) (hB : BkM B τ) (hA : Acc B N τ c s) (hF : 10000 ≤ F) (hab : b + 3 < a ∨ a + 2 < b) (ha : a + 2 < 64) (hc : c = 0 ∨ c = 1) (hs : 0 ≤ s ∧ s < 4) (hm0 : c = 0 → τ.1 0 18 = I (Ne N)) (hm1 : c = 1 → τ.1 47 s.toNat = I (Ne N)) : ∃ W σ' τ', f_X10_reachAll F a b σ = some σ' ∧ f_X12_reach F (I c) (I s) τ = some τ' ∧ Rp N W σ τ σ' τ' a c ∧ Don B N W (Ws W) ∧ ∀ e', 0 ≤ e' → e' < Ne N → Rkd W (Nw N (-2 - e')) := by
  unfold f_X10_reachAll f_X12_reach
  obtain ⟨s1, f1, f2, f3, f4⟩ := c_fill (F := F) (a := a + 2) (na := 400) (v := (-1 : Int32)) (σ := σ) (by omega) hF
  have he8 := hV.2.1
  have he0 := hV.1
  obtain ⟨t1, g1, g2, g3, g4⟩ := m_fillrank (F := F) hc (I s) F 0 (seti τ 51 c.toNat (I 0)) (by omega) (by omega)
  have g1' : f_X12_reach_L9 F (I c) (I s) F (I 0) (seti τ 51 c.toNat (I 0)) = some t1 := g1
  obtain ⟨W', σ', τ', d1, d2, d3, d4, d5, d6⟩ := s_ends (F := F) (σ0 := σ) (τ0 := τ) hK hV hC hBC hB hA hF hab ha hc F 0 (fun _ => 0, fun _ => -1, 0) (seti s1 a 2 (I 0)) t1 (by omega) he0 (by omega) (by
    refine ⟨⟨by show (0 : Int) ≤ 0; omega, by show (0 : Int) ≤ 400; omega, fun i i0 i1 => ?_, fun n n0 n1 => ⟨by show (-1 : Int) ≤ -1; omega, by show (-1 : Int) < 0; omega, fun w => ?_⟩⟩, ⟨by rw [seti1, if_pos ⟨rfl, rfl⟩]; rfl, fun i i0 i1 => ?_, fun n n0 n1 => ?_⟩, ⟨?_, fun i i0 i1 => ?_, fun n n0 n1 => ?_⟩, ⟨?_, ?_⟩, ?_, ?_, ?_, ?_⟩
    · have : i < 0 := i1
      omega
    · have : (0 : Int) ≤ -1 := w
      omega
    · have : i < 0 := i1
      omega
    · rw [seti_r (by omega), f4 _ (by omega)]; rfl
    · rw [g3 51 (by omega), seti1, if_pos ⟨rfl, rfl⟩]; rfl
    · have : i < 0 := i1
      omega
    · rw [g4, if_pos (by omega)]; rfl
    · rw [seti2, f2]
    · intro k hk
      rw [seti_r (by omega), f3 k (by omega)]
    · rw [g2]; rfl
    · intro k hk
      rw [g3 k (by omega), seti_r (by omega)]
    · intro j hj
      refine ⟨by rw [g3 49 (by omega), seti_r (by omega)], ?_⟩
      rw [g4, if_neg (by omega), seti_r (by omega)]
    · intro j hj
      rw [g3 51 (by omega), seti1, if_neg (by omega)]) (fun i i0 i1 => by
    have : i < 0 := i1
    omega)
  have d1' : f_X10_reachAll_L18 F a b F (0 : Int32) (0 : Int32) (seti s1 a 2 (I 0)) = some σ' := d1
  have d2' : f_X12_reach_L59 F (I c) (I s) (I (Ne N)) F (0 : Int32) (0 : Int32) t1 = some τ' := d2
  refine ⟨W', σ', τ', ?_, ?_, d3, d5, fun e' a b => d6 e' a b⟩
  · rw [f1, Option.bind_some, Option.bind_some, show (0 : Int32) = I 0 from rfl, show I 0 = (0 : Int32) from rfl]
    rw [show (seti s1 a 2 0) = seti s1 a 2 (I 0) from rfl, d1']
    rfl
  · have hin : inb (I c) 2 = true := (I_inb (by omega) (by omega)).mpr ⟨by omega, by omega⟩
    have hin4 : inb (I s) 4 = true := (I_inb (by omega) (by omega)).mpr ⟨hs.1, hs.2⟩
    rw [if_pos hin, Option.bind_some, show ix (I c) = c.toNat from I_ix (by omega) (by omega), show (0 : Int32) = I 0 from rfl, g1', Option.bind_some]
    rcases hc with e | e
    · have hz := hm0 e
      rw [if_pos (by rw [e]), Option.bind_some, g3 0 (by omega), seti_r (by omega), hz]
      rw [show I 0 = (0 : Int32) from rfl, d2']
      rfl
    · have hz := hm1 e
      rw [if_neg (by rw [e]; decide), if_pos hin4, Option.bind_some, show ix (I s) = s.toNat from I_ix (by omega) (by omega), g3 47 (by omega), seti_r (by omega), hz]
      rw [show I 0 = (0 : Int32) from rfl, d2']
      rfl
theorem acc0 (hK : KdV B) (hV : NetV B N) (hM : NtM B N τ) (s : Int) : Acc B N τ 0 s := by
  have he8 := hV.2.1
  refine ⟨fun n n0 n1 => ?_, fun x hL h0 => ?_, fun x hL h0 => ?_⟩
  · unfold f_X12_agentOf
    simp (maxSteps := 4000000) (disch := omega) only [I_lits, nz, nc, if_pos, if_neg, if_true, if_false, Option.bind_some, true_and, and_true, and_self, or_true, true_or, or_false, false_or, not_true_eq_false, not_false_eq_true, false_and, and_false, Bool.false_eq_true, decide_true, decide_false, eq_self, hM.1 n n0 n1]
  · have := liv_r hV hL
    unfold f_X12_wireOf
    simp (maxSteps := 4000000) (disch := omega) only [I_lits, nz, nc, if_pos, if_neg, if_true, if_false, Option.bind_some, true_and, and_true, and_self, or_true, true_or, or_false, false_or, not_true_eq_false, not_false_eq_true, false_and, and_false, Bool.false_eq_true, decide_true, decide_false, eq_self, hM.2.1 x hL h0]
  · have hl : -2 - x < 8 ∧ x ≤ -2 := by
      rcases hL with q | q <;> omega
    unfold f_X12_endTo
    simp (maxSteps := 4000000) (disch := omega) only [I_lits, nz, nc, if_pos, if_neg, if_true, if_false, Option.bind_some, true_and, and_true, and_self, or_true, true_or, or_false, false_or, not_true_eq_false, not_false_eq_true, false_and, and_false, Bool.false_eq_true, decide_true, decide_false, eq_self, hM.2.2.1 x hL h0]
theorem acc1 (hK : KdV B) (hV : NetV B N) {s : Int} (s0 : 0 ≤ s) (s1 : s < 4) (hM : ShM B N τ s) : Acc B N τ 1 s := by
  have he8 := hV.2.1
  refine ⟨fun n n0 n1 => ?_, fun x hL h0 => ?_, fun x hL h0 => ?_⟩
  · unfold f_X12_agentOf
    have this : τ.1 44 (400 * s.toNat + n.toNat) = I (Nk N n) := hM.1 n n0 n1
    have e : (400 * s + n).toNat = 400 * s.toNat + n.toNat := by omega
    simp (maxSteps := 4000000) (disch := omega) only [I_lits, nz, nc, if_pos, if_neg, if_true, if_false, Option.bind_some, true_and, and_true, and_self, or_true, true_or, or_false, false_or, not_true_eq_false, not_false_eq_true, false_and, and_false, Bool.false_eq_true, decide_true, decide_false, eq_self]
    rw [e, this]
  · have hr := liv_r hV hL
    unfold f_X12_wireOf
    have this : τ.1 45 (2000 * s.toNat + x.toNat) = I (Nw N x) := hM.2.1 x hL h0
    have e : (2000 * s + x).toNat = 2000 * s.toNat + x.toNat := by omega
    simp (maxSteps := 4000000) (disch := omega) only [I_lits, nz, nc, if_pos, if_neg, if_true, if_false, Option.bind_some, true_and, and_true, and_self, or_true, true_or, or_false, false_or, not_true_eq_false, not_false_eq_true, false_and, and_false, Bool.false_eq_true, decide_true, decide_false, eq_self]
    rw [e, this]
  · have hl : -2 - x < 8 ∧ x ≤ -2 := by
      rcases hL with q | q <;> omega
    unfold f_X12_endTo
    have this : τ.1 46 (8 * s.toNat + (-2 - x).toNat) = I (Nw N x) := hM.2.2.1 x hL h0
    have e : (8 * s + (-2 - x)).toNat = 8 * s.toNat + (-2 - x).toNat := by omega
    simp (maxSteps := 4000000) (disch := omega) only [I_lits, nz, nc, if_pos, if_neg, if_true, if_false, Option.bind_some, true_and, and_true, and_self, or_true, true_or, or_false, false_or, not_true_eq_false, not_false_eq_true, false_and, and_false, Bool.false_eq_true, decide_true, decide_false, eq_self]
    rw [e, this]
theorem op_reached (h : Sim σ τ q) (hF : 10000 ≤ F) : Op (f_X11_reached F σ) (f_X12_reached F τ) q := by
  have hS := h
  obtain ⟨B, N, ⟨hK, hR, hV, hBC, hBM, hNC, hNM⟩, h2⟩ := h
  obtain ⟨W, σ', τ', a1, a2, a3, a4, a5⟩ := s_reach (F := F) (a := 56) (b := 77) (c := 0) (s := 0) hK hV hNC hBC hBM (acc0 hK hV hNM 0) hF (by omega) (by omega) (Or.inl rfl) (by omega) (fun _ => hNM.2.2.2.1) (fun e => by omega)
  unfold f_X11_reached f_X12_reached
  rw [a1, show (0 : Int32) = I 0 from rfl, a2, Option.bind_some, Option.bind_some, a3.2.1.1, show ix (I 0) = (0 : Int).toNat from rfl, a3.2.2.1.1]
  refine ⟨_, _, _, rfl, rfl, sim_fr hS ⟨fun k hk => a3.2.2.2.1.2 k (by omega), by rw [a3.2.2.2.1.2 1 (by omega)], by rw [a3.2.2.2.1.2 9 (by omega)], by rw [a3.2.2.2.1.1], by rw [a3.2.2.2.1.1]⟩ ⟨fun k hk => a3.2.2.2.2.2.1 k (by omega), fun j hj => by rw [a3.2.2.2.2.2.1 0 (by omega)], by rw [a3.2.2.2.2.1], by rw [a3.2.2.2.2.1]⟩⟩
/-- places by the walk's numbers -/
def nb (W : WkT) (x : Int) : Int := if x < 0 then x else 5 * Wr W (x / 5) + x % 5
theorem nb_r {W : WkT} (hI : WkI N W) {x : Int} (h0 : -9 ≤ x) (h1 : x < 2000) (hr : Rkd W x) : -9 ≤ nb W x ∧ nb W x < 2000 := by
  unfold nb
  by_cases hx : x < 0
  · rw [if_pos hx]; omega
  · rw [if_neg hx]
    have := hI.2.2.2 (x / 5) (by omega) (by omega)
    have hs := hI.2.1
    rcases hr with q | q <;> omega
theorem to8_inj {x y : Int} (h : to8 x = to8 y) : x = y := by
  unfold to8 at h
  split at h <;> split at h <;> omega
theorem c_numb {W : WkT} (hI : WkI N W) (hC : WkC W σ a) {x : Int} (h0 : -9 ≤ x) (h1 : x < 2000) (hr : Rkd W x) : f_X10_numbered a (I (to8 x)) σ = some (I (to8 (nb W x))) := by
  unfold f_X10_numbered f_X11_isInside f_X11_portCode
  have h8 := to8_r h0 h1
  by_cases hx : x < 0
  · have e : nb W x = x := if_pos hx
    rw [e, to8_n hx]
    simp (maxSteps := 4000000) (disch := omega) only [I_lits, nz, nc, if_pos, if_neg, if_true, if_false, Option.bind_some, true_and, and_true, and_self, or_true, true_or, or_false, false_or, not_true_eq_false, not_false_eq_true, false_and, and_false, Bool.false_eq_true, decide_true, decide_false, eq_self]
  · have hb := hI.2.2.2 (x / 5) (by omega) (by omega)
    have hs := hI.2.1
    have hq : 0 ≤ Wr W (x / 5) := by
      rcases hr with q | q
      · exact absurd q hx
      · exact q
    have e : nb W x = 5 * Wr W (x / 5) + x % 5 := if_neg hx
    have e8 : to8 (nb W x) = 8 * Wr W (x / 5) + x % 5 := by
      rw [e, to8_p (by omega)]; omega
    have h80 : 0 ≤ to8 x := by
      rw [to8_p (by omega)]; omega
    have er := hC.2.2 (x / 5) (by omega) (by omega)
    rw [I_agentOf (by omega) h1, I_portOf (by omega) h1, e8]
    simp (maxSteps := 4000000) (disch := omega) only [I_lits, nz, nc, if_pos, if_neg, if_true, if_false, Option.bind_some, true_and, and_true, and_self, or_true, true_or, or_false, false_or, not_true_eq_false, not_false_eq_true, false_and, and_false, Bool.false_eq_true, decide_true, decide_false, eq_self, er, i01]
theorem m_numb {W : WkT} (hI : WkI N W) (hc : c = 0 ∨ c = 1) (hM : WkM W τ c) {x : Int} (h0 : -9 ≤ x) (h1 : x < 2000) (hr : Rkd W x) : f_X12_asReached (I c) (I x) τ = some (I (nb W x)) := by
  unfold f_X12_asReached
  by_cases hx : x < 0
  · have e : nb W x = x := if_pos hx
    rw [e]
    simp (maxSteps := 4000000) (disch := omega) only [I_lits, nz, nc, if_pos, if_neg, if_true, if_false, Option.bind_some, true_and, and_true, and_self, or_true, true_or, or_false, false_or, not_true_eq_false, not_false_eq_true, false_and, and_false, Bool.false_eq_true, decide_true, decide_false, eq_self, hx]
  · have er := hM.2.2 (x / 5) (by omega) (by omega)
    have e : nb W x = 5 * Wr W (x / 5) + x % 5 := if_neg hx
    rw [e]
    simp (maxSteps := 4000000) (disch := omega) only [I_lits, nz, nc, if_pos, if_neg, if_true, if_false, Option.bind_some, true_and, and_true, and_self, or_true, true_or, or_false, false_or, not_true_eq_false, not_false_eq_true, false_and, and_false, Bool.false_eq_true, decide_true, decide_false, eq_self, hx, er]
    congr 2
    omega
def allB (p : Int → Bool) : Nat → Int → Bool
  | 0, _ => true
  | m + 1, k => p k && allB p m (k + 1)
theorem allB_c {p q : Int → Bool} : ∀ (m : Nat) (k : Int), (∀ i, k ≤ i → i < k + m → p i = q i) → allB p m k = allB q m k
  | 0, _, _ => rfl
  | m + 1, k, h => by rw [allB, allB, h k (by omega) (by omega), allB_c m (k + 1) (fun i a b => h i (by omega) (by omega))]
theorem allB_add {p : Int → Bool} : ∀ (m n : Nat) (k : Int), allB p (m + n) k = (allB p m k && allB p n (k + m))
  | 0, n, k => by
    rw [Nat.zero_add, allB, Bool.true_and, show k + ((0 : Nat) : Int) = k by omega]
  | m + 1, n, k => by
    rw [show m + 1 + n = (m + n) + 1 by omega, allB, allB, allB_add m n (k + 1), Bool.and_assoc, show k + 1 + (m : Int) = k + ((m + 1 : Nat) : Int) by omega]
theorem allB_true {p : Int → Bool} : ∀ (m : Nat) (k : Int), (∀ i, k ≤ i → i < k + m → p i = true) → allB p m k = true
  | 0, _, _ => rfl
  | m + 1, k, h => by rw [allB, h k (by omega) (by omega), allB_true m (k + 1) (fun i a b => h i (by omega) (by omega))]; rfl
/-- a loop of the class: goes on while p holds -/
theorem all_loopC {L : Nat → Int32 → Option Int32} {p : Int → Bool} {c : Int} {v : Int} (hL : ∀ (n : Nat) (j : Int), v ≤ j → j < c → L (n + 1) (I j) = if p j then L n (I (j + 1)) else some (I 0)) (hE : ∀ n, L (n + 1) (I c) = some (I 1)) : ∀ (n m : Nat) (j : Int), v ≤ j → j + m = c → m < n → L n (I j) = some (I (if allB p m j then 1 else 0)) := by
  intro n
  induction n with
  | zero => intro m j h1 h2 h3; omega
  | succ n ih =>
    intro m j h1 h2 h3
    cases m with
    | zero =>
      rw [show j = c by omega, hE]
      rfl
    | succ m =>
      rw [hL n j h1 (by omega), allB]
      by_cases hp : p j = true
      · rw [if_pos hp, ih m (j + 1) (by omega) (by omega) (by omega), hp]; rfl
      · rw [if_neg hp]
        simp [hp]
/-- a loop of the reference: carries a flag -/
theorem all_loopM {L : Nat → Int32 → Int32 → Option Int32} {p : Int → Bool} {c : Int} {v : Int} (hL : ∀ (n : Nat) (j : Int), v ≤ j → j < c → L (n + 1) (I 1) (I j) = L n (I (if p j then 1 else 0)) (I (j + 1))) (h0 : ∀ n j, v ≤ j → j ≤ c → L (n + 1) (I 0) (I j) = some (I 0)) (hE : ∀ n, L (n + 1) (I 1) (I c) = some (I 1)) : ∀ (n m : Nat) (j : Int) (g : Bool), v ≤ j → j + m = c → m < n → L n (I (if g then 1 else 0)) (I j) = some (I (if g && allB p m j then 1 else 0)) := by
  intro n
  induction n with
  | zero => intro m j g h1 h2 h3; omega
  | succ n ih =>
    intro m j g h1 h2 h3
    cases g with
    | false =>
      rw [show (if (false = true) then (1 : Int) else 0) = 0 from rfl, h0 n j h1 (by omega)]
      rfl
    | true =>
      rw [show (if (true = true) then (1 : Int) else 0) = 1 from rfl, Bool.true_and]
      cases m with
      | zero =>
        rw [show j = c by omega, hE]
        rfl
      | succ m =>
        rw [hL n j h1 (by omega), allB, ih m (j + 1) (p j) (by omega) (by omega) (by omega)]
end LIK
