/-- while printing -/
def PR (σ0 τ0 σ τ : St) : Prop := OuR σ τ ∧ σ.2 = σ0.2 ∧ (∀ k, k ≠ 62 → k ≠ 63 → σ.1 k = σ0.1 k) ∧ τ.2 = τ0.2 ∧ (∀ k, k ≠ 0 → k ≠ 16 → k ≠ 52 → k ≠ 53 → τ.1 k = τ0.1 k) ∧ ∀ j, j ≠ 28 → τ.1 0 j = τ0.1 0 j
def SkE (τ τ' : St) (d : Int) : Prop := ∀ i : Int, 0 ≤ i → i < d → τ'.1 52 i.toNat = τ.1 52 i.toNat ∧ τ'.1 53 i.toNat = τ.1 53 i.toNat
theorem sk_rfl (τ : St) (d : Int) : SkE τ τ d := fun _ _ _ => ⟨rfl, rfl⟩
theorem sk_tr {τ τ' τ'' : St} {d d' : Int} (h : SkE τ τ' d) (h' : SkE τ' τ'' d') (hd : d ≤ d') : SkE τ τ'' d := fun i a b => ⟨by rw [(h' i a (by omega)).1, (h i a b).1], by rw [(h' i a (by omega)).2, (h i a b).2]⟩
def bnd : Nat → Nat
  | 0 => 1
  | k + 1 => 1 + 4 * bnd k
section PRT
variable {B : BkT} {N : NtT} {σ τ σ0 τ0 : St} {q : Int} {F : Nat}
theorem s_put (h : PR σ0 τ0 σ τ) {c : Int} (c0 : 0 ≤ c) (c1 : c < 256) : ∃ σ' τ', f_X5_put (I c) σ = some σ' ∧ f_X12_put (I c) τ = some τ' ∧ PR σ0 τ0 σ' τ' ∧ τ'.1 52 = τ.1 52 ∧ τ'.1 53 = τ.1 53 := by
  obtain ⟨⟨n, n0, n1, n2, n3, n4⟩, h2, h3, h4, h5, h6⟩ := h
  unfold f_X5_put f_X12_put
  rw [n2, n3]
  by_cases hn : n < 4000
  · have r1 : (seti σ 63 n.toNat ((I c).toInt8.toInt32.toInt8.toInt32)).1 62 1 = I n := by rw [seti_r (by omega)]; exact n2
    have r2 : (seti τ 16 n.toNat (I c)).1 0 28 = I n := by rw [seti_r (by omega)]; exact n3
    simp (maxSteps := 4000000) (disch := omega) only [I_lits, nz, nc, if_pos, if_neg, if_true, if_false, Option.bind_some, true_and, and_true, and_self, or_true, true_or, or_false, false_or, not_true_eq_false, not_false_eq_true, false_and, and_false, Bool.false_eq_true, decide_true, decide_false, eq_self, hn, r1, r2]
    refine ⟨_, _, rfl, rfl, ⟨⟨n + 1, by omega, by omega, ?_, ?_, ?_⟩, h2, ?_, h4, ?_, ?_⟩, ?_, ?_⟩
    · rw [seti1, if_pos ⟨rfl, rfl⟩]
    · rw [seti1, if_pos ⟨rfl, rfl⟩]
    · intro i i0 i1
      rw [seti_r (show (63 : Nat) ≠ 62 by omega), seti_r (show (16 : Nat) ≠ 0 by omega), seti1, seti1]
      by_cases e : i = n
      · rw [if_pos (by rw [e]; exact ⟨rfl, rfl⟩), if_pos (by rw [e]; exact ⟨rfl, rfl⟩)]
        exact put255' c0 c1
      · rw [if_neg (by omega), if_neg (by omega)]
        exact n4 i i0 (by omega)
    · intro k a b
      rw [seti_r a, seti_r b, h3 k a b]
    · intro k a b c d
      rw [seti_r a, seti_r b, h5 k a b c d]
    · intro j hj
      rw [seti1, if_neg (by omega), seti_r (by omega), h6 j hj]
    · rw [seti_r (by omega), seti_r (by omega)]
    · rw [seti_r (by omega), seti_r (by omega)]
  · simp (maxSteps := 4000000) (disch := omega) only [I_lits, nz, nc, if_pos, if_neg, if_true, if_false, Option.bind_some, true_and, and_true, and_self, or_true, true_or, or_false, false_or, not_true_eq_false, not_false_eq_true, false_and, and_false, Bool.false_eq_true, decide_true, decide_false, eq_self, hn]
    exact ⟨σ, τ, rfl, rfl, ⟨⟨n, n0, n1, n2, n3, n4⟩, h2, h3, h4, h5, h6⟩, rfl, rfl⟩
theorem s_putName (c : Int64) : ∀ (f j : Nat) (σ τ : St), j ≤ 8 → 8 - j < f → PR σ0 τ0 σ τ → ∃ σ' τ', f_X5_putName_L3 F c f (I (56 - 8 * (j : Int))) σ = some σ' ∧ f_X12_putName_L3 F c f (I (56 - 8 * (j : Int))) τ = some τ' ∧ PR σ0 τ0 σ' τ' ∧ τ'.1 52 = τ.1 52 ∧ τ'.1 53 = τ.1 53 := by
  intro f
  induction f with
  | zero => intro j σ τ h1 h2; omega
  | succ f ih =>
    intro j σ τ h1 h2 h
    rw [f_X5_putName_L3, f_X12_putName_L3]
    by_cases hj : j = 8
    · subst hj
      simp (maxSteps := 4000000) (disch := omega) only [I_lits, nz, nc, if_pos, if_neg, if_true, if_false, Option.bind_some, true_and, and_true, and_self, or_true, true_or, or_false, false_or, not_true_eq_false, not_false_eq_true, false_and, and_false, Bool.false_eq_true, decide_true, decide_false, eq_self]
      exact ⟨σ, τ, rfl, rfl, h, rfl, rfl⟩
    · obtain ⟨b, b0, b1, b2⟩ := and255 (((c.toUInt64 >>> ((I (56 - 8 * (j : Int))).toInt64.toUInt64 &&& Int64.toUInt64 63)).toInt64).toInt32)
      have b3 : ((c >>> ((I (56 - 8 * (j : Int))).toInt64 &&& 63)) &&& (255 : Int64)).toInt32 = I b := by
        have := nm_eq c j (by omega)
        unfold nmc nmm at this
        rw [← this]; exact b2
      rw [b2, b3]
      simp (maxSteps := 4000000) (disch := omega) only [I_lits, nz, nc, if_pos, if_neg, if_true, if_false, Option.bind_some, true_and, and_true, and_self, or_true, true_or, or_false, false_or, not_true_eq_false, not_false_eq_true, false_and, and_false, Bool.false_eq_true, decide_true, decide_false, eq_self]
      rw [show (56 - 8 * (j : Int) + -8) = 56 - 8 * ((j + 1 : Nat) : Int) by omega]
      by_cases hb : b = 0
      · simp (maxSteps := 4000000) (disch := omega) only [I_lits, nz, nc, if_pos, if_neg, if_true, if_false, Option.bind_some, true_and, and_true, and_self, or_true, true_or, or_false, false_or, not_true_eq_false, not_false_eq_true, false_and, and_false, Bool.false_eq_true, decide_true, decide_false, eq_self, hb]
        exact ih (j + 1) σ τ (by omega) (by omega) h
      · obtain ⟨σ1, τ1, a1, a2, a3, a4, a5⟩ := s_put h b0 b1
        simp (maxSteps := 4000000) (disch := omega) only [I_lits, nz, nc, if_pos, if_neg, if_true, if_false, Option.bind_some, true_and, and_true, and_self, or_true, true_or, or_false, false_or, not_true_eq_false, not_false_eq_true, false_and, and_false, Bool.false_eq_true, decide_true, decide_false, eq_self, hb, a1, a2]
        obtain ⟨σ', τ', d1, d2, d3, d4, d5⟩ := ih (j + 1) σ1 τ1 (by omega) (by omega) a3
        exact ⟨σ', τ', d1, d2, d3, by rw [d4, a4], by rw [d5, a5]⟩
/-- how the reference goes on when a tree has been printed at depth d -/
def Cn (F n : Nat) (d : Int) (τ : St) (X : Option St) : Prop := ∀ (m : Nat) (w' : Int32), d + 2 ≤ m → Option.bind (f_X12_print_L176 F m (I d) w' (I 0) (I 0) τ) (fun t => f_X12_print_L37 F n t.1 t.2.1 t.2.2.1 t.2.2.2) = X
theorem pr_c (hC : Cor B N σ0 τ0) (h : PR σ0 τ0 σ τ) : NtC B N σ 77 ∧ BkC B σ 64 ∧ NtM B N τ ∧ BkM B τ :=
  ⟨ntc_fr hC.2.2.2.2.2.1 (fun k _ _ => h.2.2.1 k (by omega) (by omega)), bkc_fr hC.2.2.2.1 (fun k _ _ => h.2.2.1 k (by omega) (by omega)) (by rw [h.2.1]), ntm_fr hC.2.2.2.2.2.2 (fun k _ _ => h.2.2.2.2.1 k (by omega) (by omega) (by omega) (by omega)) (fun j _ => h.2.2.2.2.2 j (by omega)), bkm_fr hC.2.2.2.2.1 (fun k _ _ => h.2.2.2.2.1 k (by omega) (by omega) (by omega) (by omega)) (fun j _ => h.2.2.2.2.2 j (by omega)) (by rw [h.2.2.2.1])⟩
def TreeOK (B : BkT) (N : NtT) (F : Nat) (σ0 τ0 : St) (k : Nat) (d : Int) : Prop := ∀ (w : Int) (σ τ : St), NLiv B N w → PR σ0 τ0 σ τ → ∃ σ' τ' M, M ≤ bnd k ∧ (∀ D, k + 1 ≤ D → f_X5_putTree F D (I (to8 w)) (I d) σ = some σ') ∧ PR σ0 τ0 σ' τ' ∧ SkE τ τ' d ∧ ∀ n X, Cn F n d τ' X → f_X12_print_L37 F (n + M) (I d) (I w) (I 1) τ = X
/-- one agent's other ports, from p on, where the sign before it has been put -/
theorem s_ports (hC : Cor B N σ0 τ0) (hF : 10000 ≤ F) {k : Nat} {d : Int} (d0 : 0 ≤ d) (d1 : d < 40) (hT : TreeOK B N F σ0 τ0 k (d + 1)) {a : Int} (a0 : 0 ≤ a) (a1 : a < 400) (ka : 0 ≤ Nk N a) : ∀ (m : Nat) (p : Int) (σ τ : St), 1 ≤ p → p + m + 1 = Bpt B (Nk N a) → PR σ0 τ0 σ τ → τ.1 52 d.toNat = I a → τ.1 53 d.toNat = I p → ∃ σ' τ' M, M ≤ (m + 1) * bnd k ∧ (∀ D f, k + 1 ≤ D → m + 2 ≤ f → Option.bind (Option.bind (f_X5_putTree F D (I (to8 (Nw N (5 * a + p)))) (I (d + 1)) σ) (fun s => f_X5_putAgent_L37 F (f_X5_putTree F D) (I a) (I d) (I (Bpt B (Nk N a))) f (I (p + 1)) s)) (fun t => f_X5_put (I 41) t) = some σ') ∧ PR σ0 τ0 σ' τ' ∧ SkE τ τ' d ∧ ∀ n X, Cn F n d τ' X → f_X12_print_L37 F (n + M) (I (d + 1)) (I (Nw N (5 * a + p))) (I 1) τ = X := by
  have hV := hC.2.2.1
  have hK := hC.1
  have kb := hV.2.2.1 a a0 a1
  have h16 := hK.2.1
  have pb := hK.2.2.1 _ ka kb.2
  intro m
  induction m with
  | zero =>
    intro p σ τ p0 p1 hP t1 t2
    have hL : NLiv B N (5 * a + p) := liv_port a0 a1 ka (by omega) (by omega) (by omega)
    obtain ⟨σ1, τ1, M1, m1, c1, c2, c3, c4⟩ := hT _ σ τ (hV.2.2.2 _ hL).1 hP
    -- the reference closes the bracket
    have s1 := c3 d d0 (by omega)
    rw [t1] at s1
    rw [t2] at s1
    have hP2 : PR σ0 τ0 σ1 (seti τ1 53 d.toNat (I (p + 1))) := by
      obtain ⟨⟨n, n0, n1, n2, n3, n4⟩, q2, q3, q4, q5, q6⟩ := c2
      refine ⟨⟨n, n0, n1, n2, by rw [seti_r (by omega)]; exact n3, fun i i0 i1 => by rw [seti_r (by omega)]; exact n4 i i0 i1⟩, q2, q3, q4, fun k a b c d => by rw [seti_r d]; exact q5 k a b c d, fun j hj => by rw [seti_r (by omega)]; exact q6 j hj⟩
    obtain ⟨σ2, τ2, e1, e2, e3, e4, e5⟩ := s_put hP2 (c := 41) (by omega) (by omega)
    obtain ⟨ncc, bcc, nmm', bmm⟩ := pr_c hC c2
    refine ⟨σ2, τ2, M1, by rw [Nat.zero_add, Nat.one_mul]; exact m1, ?_, e3, ?_, ?_⟩
    · intro D f hD hf
      obtain ⟨f', rfl⟩ : ∃ f', f = f' + 1 := ⟨f - 1, by omega⟩
      rw [c1 D hD, Option.bind_some, f_X5_putAgent_L37, if_neg (by
        rw [show p + 1 = Bpt B (Nk N a) by omega]
        exact Int32.lt_irrefl), Option.bind_some, e1]
    · intro i i0 i1
      rw [e4, e5, seti_r (by omega), seti1, if_neg (by omega)]
      exact c3 i i0 (by omega)
    · intro n X hX
      apply c4
      intro mm w' hm
      obtain ⟨mm', rfl⟩ : ∃ mm', mm = mm' + 1 := ⟨mm - 1, by omega⟩
      have aA : (seti τ1 53 d.toNat (I (p + 1))).1 12 a.toNat = I (Nk N a) := by rw [seti_r (by omega)]; exact nmm'.1 a a0 a1
      have aP : (seti τ1 53 d.toNat (I (p + 1))).1 3 (Nk N a).toNat = I (Bpt B (Nk N a)) := by rw [seti_r (by omega)]; exact bmm.1.2.2.1 _ ka kb.2
      have a53 : (seti τ1 53 d.toNat (I (p + 1))).1 53 d.toNat = I (p + 1) := by rw [seti1, if_pos ⟨rfl, rfl⟩]
      rw [f_X12_print_L176]
      simp (maxSteps := 4000000) (disch := omega) only [I_lits, nz, nc, if_pos, if_neg, if_true, if_false, Option.bind_some, true_and, and_true, and_self, or_true, true_or, or_false, false_or, not_true_eq_false, not_false_eq_true, false_and, and_false, Bool.false_eq_true, decide_true, decide_false, eq_self, show d + 1 - 1 = d from by omega, s1.1, s1.2, aA, aP, a53, e2]
      rw [show d + 1 + -1 = d by omega]
      exact hX mm' w' (by omega)
  | succ m ih =>
    intro p σ τ p0 p1 hP t1 t2
    have hL : NLiv B N (5 * a + p) := liv_port a0 a1 ka (by omega) (by omega) (by omega)
    have hL2 : NLiv B N (5 * a + (p + 1)) := liv_port a0 a1 ka (by omega) (by omega) (by omega)
    obtain ⟨σ1, τ1, M1, m1, c1, c2, c3, c4⟩ := hT _ σ τ (hV.2.2.2 _ hL).1 hP
    have s1 := c3 d d0 (by omega)
    rw [t1] at s1
    rw [t2] at s1
    have hP2 : PR σ0 τ0 σ1 (seti τ1 53 d.toNat (I (p + 1))) := by
      obtain ⟨⟨n, n0, n1, n2, n3, n4⟩, q2, q3, q4, q5, q6⟩ := c2
      refine ⟨⟨n, n0, n1, n2, by rw [seti_r (by omega)]; exact n3, fun i i0 i1 => by rw [seti_r (by omega)]; exact n4 i i0 i1⟩, q2, q3, q4, fun k a b c d => by rw [seti_r d]; exact q5 k a b c d, fun j hj => by rw [seti_r (by omega)]; exact q6 j hj⟩
    obtain ⟨σ2, τ2, e1, e2, e3, e4, e5⟩ := s_put hP2 (c := 44) (by omega) (by omega)
    obtain ⟨ncc, bcc, nmm', bmm⟩ := pr_c hC c2
    obtain ⟨nc2, bc2, nm2, bm2⟩ := pr_c hC e3
    obtain ⟨σ', τ', M2, m2, g1, g2, g3, g4⟩ := ih (p + 1) σ2 τ2 (by omega) (by omega) e3 (by rw [e4, seti_r (by omega)]; exact s1.1) (by rw [e5, seti1, if_pos ⟨rfl, rfl⟩])
    refine ⟨σ', τ', M2 + M1, ?_, ?_, g2, ?_, ?_⟩
    · have : (m + 1 + 1) * bnd k = (m + 1) * bnd k + bnd k := Nat.succ_mul _ _
      omega
    · intro D f hD hf
      obtain ⟨f', rfl⟩ : ∃ f', f = f' + 1 := ⟨f - 1, by omega⟩
      have hw := c_wireOf hV nc2 hL2
      rw [to8_p (by omega), show 8 * ((5 * a + (p + 1)) / 5) + (5 * a + (p + 1)) % 5 = 8 * a + (p + 1) by omega] at hw
      rw [c1 D hD, Option.bind_some, f_X5_putAgent_L37]
      unfold f_X11_portCode
      simp (maxSteps := 4000000) (disch := omega) only [I_lits, nz, nc, if_pos, if_neg, if_true, if_false, Option.bind_some, true_and, and_true, and_self, or_true, true_or, or_false, false_or, not_true_eq_false, not_false_eq_true, false_and, and_false, Bool.false_eq_true, decide_true, decide_false, eq_self, e1, hw]
      exact g1 D f' hD (by omega)
    · have hsk : SkE τ τ2 d := by
        intro i i0 i1
        rw [e4, e5, seti_r (by omega), seti1, if_neg (by omega)]
        exact c3 i i0 (by omega)
      exact sk_tr hsk g3 (Int.le_refl _)
    · intro n X hX
      rw [← Nat.add_assoc]
      apply c4
      intro mm w' hm
      obtain ⟨mm', rfl⟩ : ∃ mm', mm = mm' + 2 := ⟨mm - 2, by omega⟩
      have aA : (seti τ1 53 d.toNat (I (p + 1))).1 12 a.toNat = I (Nk N a) := by rw [seti_r (by omega)]; exact nmm'.1 a a0 a1
      have aP : (seti τ1 53 d.toNat (I (p + 1))).1 3 (Nk N a).toNat = I (Bpt B (Nk N a)) := by rw [seti_r (by omega)]; exact bmm.1.2.2.1 _ ka kb.2
      have a53 : (seti τ1 53 d.toNat (I (p + 1))).1 53 d.toNat = I (p + 1) := by rw [seti1, if_pos ⟨rfl, rfl⟩]
      have b53 : τ2.1 53 d.toNat = I (p + 1) := by rw [e5, seti1, if_pos ⟨rfl, rfl⟩]
      have bw := nm2.2.1 _ hL2 (by omega)
      rw [f_X12_print_L176]
      simp (maxSteps := 4000000) (disch := omega) only [I_lits, nz, nc, if_pos, if_neg, if_true, if_false, Option.bind_some, true_and, and_true, and_self, or_true, true_or, or_false, false_or, not_true_eq_false, not_false_eq_true, false_and, and_false, Bool.false_eq_true, decide_true, decide_false, eq_self, show d + 1 - 1 = d from by omega, s1.1, s1.2, aA, aP, a53, e2]
      simp (maxSteps := 4000000) (disch := omega) only [I_lits, nz, nc, if_pos, if_neg, if_true, if_false, Option.bind_some, true_and, and_true, and_self, or_true, true_or, or_false, false_or, not_true_eq_false, not_false_eq_true, false_and, and_false, Bool.false_eq_true, decide_true, decide_false, eq_self, b53, bw]
      rw [f_X12_print_L176]
      simp (maxSteps := 4000000) (disch := omega) only [I_lits, nz, nc, if_pos, if_neg, if_true, if_false, Option.bind_some, true_and, and_true, and_self, or_true, true_or, or_false, false_or, not_true_eq_false, not_false_eq_true, false_and, and_false, Bool.false_eq_true, decide_true, decide_false, eq_self, i01]
      exact g4 n X hX
theorem s_tree (hC : Cor B N σ0 τ0) (hF : 10000 ≤ F) : ∀ (k : Nat) (d : Int), 0 ≤ d → d + k = 40 → TreeOK B N F σ0 τ0 k d := by
  have hV := hC.2.2.1
  have hK := hC.1
  have h16 := hK.2.1
  have he8 := hV.2.1
  intro k
  induction k with
  | zero =>
    intro d d0 d1 w σ τ hL hP
    have hr := liv_r hV hL
    have h8 := to8_r hr.1 hr.2
    by_cases hw : w < 0
    · have hw2 : -9 ≤ w ∧ w ≤ -2 := by
        rcases hL with q | q <;> omega
      obtain ⟨σ1, τ1, a1, a2, a3, a4, a5⟩ := s_put hP (c := 35) (by omega) (by omega)
      obtain ⟨σ2, τ2, b1, b2, b3, b4, b5⟩ := s_put a3 (c := 46 - w) (by omega) (by omega)
      refine ⟨σ2, τ2, 1, by decide, ?_, b3, ?_, ?_⟩
      · intro D hD
        obtain ⟨D', rfl⟩ : ∃ D', D = D' + 1 := ⟨D - 1, by omega⟩
        rw [f_X5_putTree, to8_n hw]
        unfold f_X11_endOf
        simp (maxSteps := 4000000) (disch := omega) only [I_lits, nz, nc, if_pos, if_neg, if_true, if_false, Option.bind_some, true_and, and_true, and_self, or_true, true_or, or_false, false_or, not_true_eq_false, not_false_eq_true, false_and, and_false, Bool.false_eq_true, decide_true, decide_false, eq_self, hw, a1, show 48 + (-2 - w) = 46 - w from by omega, b1]
      · intro i i0 i1
        rw [b4, b5, a4, a5]; exact ⟨rfl, rfl⟩
      · intro n X hX
        rw [f_X12_print_L37]
        simp (maxSteps := 4000000) (disch := omega) only [I_lits, nz, nc, if_pos, if_neg, if_true, if_false, Option.bind_some, true_and, and_true, and_self, or_true, true_or, or_false, false_or, not_true_eq_false, not_false_eq_true, false_and, and_false, Bool.false_eq_true, decide_true, decide_false, eq_self, hw, a2, b2, i01]
        exact hX F _ (by omega)
    · by_cases hp : w % 5 = 0
      · obtain ⟨σ1, τ1, a1, a2, a3, a4, a5⟩ := s_put hP (c := 126) (by omega) (by omega)
        refine ⟨σ1, τ1, 1, by decide, ?_, a3, ?_, ?_⟩
        · intro D hD
          obtain ⟨D', rfl⟩ : ∃ D', D = D' + 1 := ⟨D - 1, by omega⟩
          rw [f_X5_putTree, I_portOf (by omega) hr.2, hp]
          have : ¬ to8 w < 0 := fun q => hw (to8_lt.mp q)
          simp (maxSteps := 4000000) (disch := omega) only [I_lits, nz, nc, if_pos, if_neg, if_true, if_false, Option.bind_some, true_and, and_true, and_self, or_true, true_or, or_false, false_or, not_true_eq_false, not_false_eq_true, false_and, and_false, Bool.false_eq_true, decide_true, decide_false, eq_self, this, a1, show (40 : Int) ≤ d from by omega]
        · intro i i0 i1
          rw [a4, a5]; exact ⟨rfl, rfl⟩
        · intro n X hX
          rw [f_X12_print_L37]
          simp (maxSteps := 4000000) (disch := omega) only [I_lits, nz, nc, if_pos, if_neg, if_true, if_false, Option.bind_some, true_and, and_true, and_self, or_true, true_or, or_false, false_or, not_true_eq_false, not_false_eq_true, false_and, and_false, Bool.false_eq_true, decide_true, decide_false, eq_self, hw, a2, i01, show w - w / 5 * 5 = 0 from by omega, show d = 40 from by omega]
          have := hX F (I w) (by omega)
          rw [show d = 40 by omega] at this
          exact this
      · obtain ⟨σ1, τ1, a1, a2, a3, a4, a5⟩ := s_put hP (c := 64) (by omega) (by omega)
        refine ⟨σ1, τ1, 1, by decide, ?_, a3, ?_, ?_⟩
        · intro D hD
          obtain ⟨D', rfl⟩ : ∃ D', D = D' + 1 := ⟨D - 1, by omega⟩
          rw [f_X5_putTree, I_portOf (by omega) hr.2]
          have : ¬ to8 w < 0 := fun q => hw (to8_lt.mp q)
          simp (maxSteps := 4000000) (disch := omega) only [I_lits, nz, nc, if_pos, if_neg, if_true, if_false, Option.bind_some, true_and, and_true, and_self, or_true, true_or, or_false, false_or, not_true_eq_false, not_false_eq_true, false_and, and_false, Bool.false_eq_true, decide_true, decide_false, eq_self, this, a1, hp]
        · intro i i0 i1
          rw [a4, a5]; exact ⟨rfl, rfl⟩
        · intro n X hX
          rw [f_X12_print_L37]
          simp (maxSteps := 4000000) (disch := omega) only [I_lits, nz, nc, if_pos, if_neg, if_true, if_false, Option.bind_some, true_and, and_true, and_self, or_true, true_or, or_false, false_or, not_true_eq_false, not_false_eq_true, false_and, and_false, Bool.false_eq_true, decide_true, decide_false, eq_self, hw, a2, i01, show ¬ (w - w / 5 * 5 = 0) from by omega]
          exact hX F _ (by omega)
  | succ k ih =>
    intro d d0 d1 w σ τ hL hP
    have hr := liv_r hV hL
    have h8 := to8_r hr.1 hr.2
    have hb1 : 1 ≤ bnd (k + 1) := by rw [bnd]; omega
    by_cases hw : w < 0
    · have hw2 : -9 ≤ w ∧ w ≤ -2 := by
        rcases hL with q | q <;> omega
      obtain ⟨σ1, τ1, a1, a2, a3, a4, a5⟩ := s_put hP (c := 35) (by omega) (by omega)
      obtain ⟨σ2, τ2, b1, b2, b3, b4, b5⟩ := s_put a3 (c := 46 - w) (by omega) (by omega)
      refine ⟨σ2, τ2, 1, hb1, ?_, b3, ?_, ?_⟩
      · intro D hD
        obtain ⟨D', rfl⟩ : ∃ D', D = D' + 1 := ⟨D - 1, by omega⟩
        rw [f_X5_putTree, to8_n hw]
        unfold f_X11_endOf
        simp (maxSteps := 4000000) (disch := omega) only [I_lits, nz, nc, if_pos, if_neg, if_true, if_false, Option.bind_some, true_and, and_true, and_self, or_true, true_or, or_false, false_or, not_true_eq_false, not_false_eq_true, false_and, and_false, Bool.false_eq_true, decide_true, decide_false, eq_self, hw, a1, show 48 + (-2 - w) = 46 - w from by omega, b1]
      · intro i i0 i1
        rw [b4, b5, a4, a5]; exact ⟨rfl, rfl⟩
      · intro n X hX
        rw [f_X12_print_L37]
        simp (maxSteps := 4000000) (disch := omega) only [I_lits, nz, nc, if_pos, if_neg, if_true, if_false, Option.bind_some, true_and, and_true, and_self, or_true, true_or, or_false, false_or, not_true_eq_false, not_false_eq_true, false_and, and_false, Bool.false_eq_true, decide_true, decide_false, eq_self, hw, a2, b2, i01]
        exact hX F _ (by omega)
    · by_cases hp : w % 5 = 0
      · have hag := liv_ag hL (by omega)
        have a0 : 0 ≤ w / 5 := by omega
        have a1' : w / 5 < 400 := by omega
        have kb := hV.2.2.1 _ a0 a1'
        have pb := hK.2.2.1 _ hag.2.1 kb.2
        obtain ⟨ncc, bcc, nmm', bmm⟩ := pr_c hC hP
        obtain ⟨σ1, τ1, b1, b2, b3, b4, b5⟩ := s_putName (F := F) (σ0 := σ0) (τ0 := τ0) (Bnm B (Nk N (w / 5))) F 0 σ τ (by omega) (by omega) hP
        have b1' : f_X5_putName F (Bnm B (Nk N (w / 5))) σ = some σ1 := by
          unfold f_X5_putName
          rw [show f_X5_putName_L3 F (Bnm B (Nk N (w / 5))) F (56 : Int32) σ = some σ1 from b1]; rfl
        have b2' : f_X12_putName F (Bnm B (Nk N (w / 5))) τ = some τ1 := by
          unfold f_X12_putName
          rw [show f_X12_putName_L3 F (Bnm B (Nk N (w / 5))) F (56 : Int32) τ = some τ1 from b2]; rfl
        obtain ⟨nc1, bc1, nm1, bm1⟩ := pr_c hC b3
        have cN : f_X3_nameOf (I (Nk N (w / 5))) σ = some (Bnm B (Nk N (w / 5))) := by
          unfold f_X3_nameOf
          rw [c_kHas bcc hK (by omega) (by omega), if_pos ⟨hag.2.1, kb.2⟩]
          have := bcc.1.2.1 _ hag.2.1 kb.2
          simp (maxSteps := 4000000) (disch := omega) only [I_lits, nz, nc, if_pos, if_neg, if_true, if_false, Option.bind_some, true_and, and_true, and_self, or_true, true_or, or_false, false_or, not_true_eq_false, not_false_eq_true, false_and, and_false, Bool.false_eq_true, decide_true, decide_false, eq_self, i01, this]
        have cK := c_kindOf ncc (n := w / 5) (by omega) (by omega)
        rw [if_pos ⟨a0, a1'⟩] at cK
        have cP := c_portsOf bc1 hK (k := Nk N (w / 5)) (by omega) (by omega)
        rw [if_pos ⟨hag.2.1, kb.2⟩] at cP
        have mA := nmm'.1 _ a0 a1'
        have mA1 := nm1.1 _ a0 a1'
        have mN := bmm.1.2.1 _ hag.2.1 kb.2
        have mP := bm1.1.2.2.1 _ hag.2.1 kb.2
        have h80 : ¬ to8 w < 0 := fun q => hw (to8_lt.mp q)
        by_cases h1 : Bpt B (Nk N (w / 5)) = 1
        · refine ⟨σ1, τ1, 1, hb1, ?_, b3, ?_, ?_⟩
          · intro D hD
            obtain ⟨D', rfl⟩ : ∃ D', D = D' + 1 := ⟨D - 1, by omega⟩
            obtain ⟨F', hF'⟩ : ∃ F', F = F' + 1 := ⟨F - 1, by omega⟩
            rw [f_X5_putTree, I_portOf (by omega) hr.2, hp, I_agentOf (by omega) hr.2]
            unfold f_X5_putAgent
            simp (maxSteps := 4000000) (disch := omega) only [I_lits, nz, nc, if_pos, if_neg, if_true, if_false, Option.bind_some, true_and, and_true, and_self, or_true, true_or, or_false, false_or, not_true_eq_false, not_false_eq_true, false_and, and_false, Bool.false_eq_true, decide_true, decide_false, eq_self, h80, cK, cN, b1', cP, h1, show ¬ (40 : Int) ≤ d from by omega]
            rw [show ∀ g, f_X5_putAgent_L37 F (f_X5_putTree F D') (I (w / 5)) (I d) (I 1) F (I 1) g = some g from fun g => by
              rw [hF', f_X5_putAgent_L37, if_neg Int32.lt_irrefl]]
            rfl
          · intro i i0 i1
            rw [b4, b5]; exact ⟨rfl, rfl⟩
          · intro n X hX
            rw [f_X12_print_L37]
            simp (maxSteps := 4000000) (disch := omega) only [I_lits, nz, nc, if_pos, if_neg, if_true, if_false, Option.bind_some, true_and, and_true, and_self, or_true, true_or, or_false, false_or, not_true_eq_false, not_false_eq_true, false_and, and_false, Bool.false_eq_true, decide_true, decide_false, eq_self, hw, i01, show w - w / 5 * 5 = 0 from by omega, show ¬ d = 40 from by omega, mA, mN, b2', mA1, mP, h1, Int.lt_irrefl]
            exact hX F _ (by omega)
        · obtain ⟨σ2, τ2, e1, e2, e3, e4, e5⟩ := s_put b3 (c := 40) (by omega) (by omega)
          -- push
          have hP3 : PR σ0 τ0 σ2 (seti (seti (seti τ2 52 d.toNat (I (w / 5))) 53 d.toNat (I 0)) 53 d.toNat (I 1)) := by
            obtain ⟨⟨n, n0, n1, n2, n3, n4⟩, q2, q3, q4, q5, q6⟩ := e3
            refine ⟨⟨n, n0, n1, n2, by rw [seti_r (by omega), seti_r (by omega), seti_r (by omega)]; exact n3, fun i i0 i1 => by rw [seti_r (by omega), seti_r (by omega), seti_r (by omega)]; exact n4 i i0 i1⟩, q2, q3, q4, fun k a b c d => by rw [seti_r d, seti_r d, seti_r c]; exact q5 k a b c d, fun j hj => by rw [seti_r (by omega), seti_r (by omega), seti_r (by omega)]; exact q6 j hj⟩
          obtain ⟨nc2, bc2, nm2, bm2⟩ := pr_c hC e3
          obtain ⟨nc3, bc3, nm3, bm3⟩ := pr_c hC hP3
          have hL1 : NLiv B N (5 * (w / 5) + 1) := liv_port a0 a1' hag.2.1 (by omega) (by omega) (by omega)
          obtain ⟨σ', τ', M, m1, g1, g2, g3, g4⟩ := s_ports hC hF d0 (by omega) (ih (d + 1) (by omega) (by omega)) a0 a1' hag.2.1 (Bpt B (Nk N (w / 5)) - 2).toNat 1 σ2 _ (by omega) (by omega) hP3 (by rw [seti_r (by omega), seti_r (by omega), seti1, if_pos ⟨rfl, rfl⟩]) (by rw [seti1, if_pos ⟨rfl, rfl⟩])
          refine ⟨σ', τ', M + 1, ?_, ?_, g2, ?_, ?_⟩
          · rw [bnd]
            have : ((Bpt B (Nk N (w / 5)) - 2).toNat + 1) * bnd k ≤ 4 * bnd k := Nat.mul_le_mul_right _ (by omega)
            omega
          · intro D hD
            obtain ⟨D', rfl⟩ : ∃ D', D = D' + 1 := ⟨D - 1, by omega⟩
            obtain ⟨F', hF'⟩ : ∃ F', F = F' + 1 := ⟨F - 1, by omega⟩
            have hwr := c_wireOf hV nc2 hL1
            rw [to8_p (by omega), show 8 * ((5 * (w / 5) + 1) / 5) + (5 * (w / 5) + 1) % 5 = 8 * (w / 5) + 1 by omega] at hwr
            rw [f_X5_putTree, I_portOf (by omega) hr.2, hp, I_agentOf (by omega) hr.2]
            unfold f_X5_putAgent
            simp (maxSteps := 4000000) (disch := omega) only [I_lits, nz, nc, if_pos, if_neg, if_true, if_false, Option.bind_some, true_and, and_true, and_self, or_true, true_or, or_false, false_or, not_true_eq_false, not_false_eq_true, false_and, and_false, Bool.false_eq_true, decide_true, decide_false, eq_self, h80, cK, cN, b1', cP, show ¬ (40 : Int) ≤ d from by omega]
            rw [show f_X5_putAgent_L37 F (f_X5_putTree F D') (I (w / 5)) (I d) (I (Bpt B (Nk N (w / 5)))) F (I 1) σ1 = Option.bind (f_X5_putTree F D' (I (to8 (Nw N (5 * (w / 5) + 1)))) (I (d + 1)) σ2) (fun s => f_X5_putAgent_L37 F (f_X5_putTree F D') (I (w / 5)) (I d) (I (Bpt B (Nk N (w / 5)))) F' (I (1 + 1)) s) from by
              conv => lhs; rw [hF']
              rw [f_X5_putAgent_L37, ← hF']
              unfold f_X11_portCode
              simp (maxSteps := 4000000) (disch := omega) only [I_lits, nz, nc, if_pos, if_neg, if_true, if_false, Option.bind_some, true_and, and_true, and_self, or_true, true_or, or_false, false_or, not_true_eq_false, not_false_eq_true, false_and, and_false, Bool.false_eq_true, decide_true, decide_false, eq_self, e1, hwr]]
            have := g1 D' F' (by omega) (by omega)
            simp only [Option.bind_fun_some]
            exact this
          · intro i i0 i1
            have := g3 i i0 (by omega)
            rw [this.1, this.2, seti_r (by omega), seti_r (by omega), seti1, if_neg (by omega), seti1, if_neg (by omega), seti1, if_neg (by omega), seti_r (by omega), e4, e5, b4, b5]
            exact ⟨rfl, rfl⟩
          · intro n X hX
            rw [← Nat.add_assoc, f_X12_print_L37]
            obtain ⟨F', hF'⟩ : ∃ F', F = F' + 2 := ⟨F - 2, by omega⟩
            have t52 : (seti (seti τ2 52 d.toNat (I (w / 5))) 53 d.toNat (I 0)).1 52 d.toNat = I (w / 5) := by rw [seti_r (by omega), seti1, if_pos ⟨rfl, rfl⟩]
            have t53 : (seti (seti τ2 52 d.toNat (I (w / 5))) 53 d.toNat (I 0)).1 53 d.toNat = I 0 := by rw [seti1, if_pos ⟨rfl, rfl⟩]
            have u12 := nm3.1 _ a0 a1'
            have u3 := bm3.1.2.2.1 _ hag.2.1 kb.2
            have u53 : (seti (seti (seti τ2 52 d.toNat (I (w / 5))) 53 d.toNat (I 0)) 53 d.toNat (I 1)).1 53 d.toNat = I 1 := by rw [seti1, if_pos ⟨rfl, rfl⟩]
            have uw := nm3.2.1 _ hL1 (by omega)
            have step : f_X12_print_L176 F F (I (d + 1)) (I w) (I 0) (I 1) (seti (seti τ2 52 d.toNat (I (w / 5))) 53 d.toNat (I 0)) = some (I (d + 1), I (Nw N (5 * (w / 5) + 1)), I 1, seti (seti (seti τ2 52 d.toNat (I (w / 5))) 53 d.toNat (I 0)) 53 d.toNat (I 1)) := by
              conv => lhs; rw [hF']
              rw [f_X12_print_L176, ← hF']
              simp (maxSteps := 4000000) (disch := omega) only [I_lits, nz, nc, if_pos, if_neg, if_true, if_false, Option.bind_some, true_and, and_true, and_self, or_true, true_or, or_false, false_or, not_true_eq_false, not_false_eq_true, false_and, and_false, Bool.false_eq_true, decide_true, decide_false, eq_self, show d + 1 - 1 = d from by omega, t52, t53, show (0 : Int) + 1 = 1 from by omega, u12, u3, u53]
              rw [f_X12_print_L176]
              simp (maxSteps := 4000000) (disch := omega) only [I_lits, nz, nc, if_pos, if_neg, if_true, if_false, Option.bind_some, true_and, and_true, and_self, or_true, true_or, or_false, false_or, not_true_eq_false, not_false_eq_true, false_and, and_false, Bool.false_eq_true, decide_true, decide_false, eq_self, i01, uw]
            simp (maxSteps := 4000000) (disch := omega) only [I_lits, nz, nc, if_pos, if_neg, if_true, if_false, Option.bind_some, true_and, and_true, and_self, or_true, true_or, or_false, false_or, not_true_eq_false, not_false_eq_true, false_and, and_false, Bool.false_eq_true, decide_true, decide_false, eq_self, hw, i01, show w - w / 5 * 5 = 0 from by omega, show ¬ d = 40 from by omega, mA, mN, b2', mA1, mP, e2, step]
            exact g4 n X hX
      · obtain ⟨σ1, τ1, a1, a2, a3, a4, a5⟩ := s_put hP (c := 64) (by omega) (by omega)
        refine ⟨σ1, τ1, 1, hb1, ?_, a3, ?_, ?_⟩
        · intro D hD
          obtain ⟨D', rfl⟩ : ∃ D', D = D' + 1 := ⟨D - 1, by omega⟩
          rw [f_X5_putTree, I_portOf (by omega) hr.2]
          have : ¬ to8 w < 0 := fun q => hw (to8_lt.mp q)
          simp (maxSteps := 4000000) (disch := omega) only [I_lits, nz, nc, if_pos, if_neg, if_true, if_false, Option.bind_some, true_and, and_true, and_self, or_true, true_or, or_false, false_or, not_true_eq_false, not_false_eq_true, false_and, and_false, Bool.false_eq_true, decide_true, decide_false, eq_self, this, a1, hp]
        · intro i i0 i1
          rw [a4, a5]; exact ⟨rfl, rfl⟩
        · intro n X hX
          rw [f_X12_print_L37]
          simp (maxSteps := 4000000) (disch := omega) only [I_lits, nz, nc, if_pos, if_neg, if_true, if_false, Option.bind_some, true_and, and_true, and_self, or_true, true_or, or_false, false_or, not_true_eq_false, not_false_eq_true, false_and, and_false, Bool.false_eq_true, decide_true, decide_false, eq_self, hw, a2, i01, show ¬ (w - w / 5 * 5 = 0) from by omega]
          exact hX F _ (by omega)
end PRT
