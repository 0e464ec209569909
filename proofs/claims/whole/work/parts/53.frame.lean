/-! frames -/
section FRM
variable {B : BkT} {N : NtT} {σ τ σ' τ' : St} {q : Int}
theorem bkc_fr {b : Nat} (h : BkC B σ b) (c : ∀ a, b ≤ a → a ≤ b + 12 → σ'.1 a = σ.1 a) (c2 : σ'.2 (b + 2) = σ.2 (b + 2)) : BkC B σ' b := by
  unfold BkC at h ⊢
  rw [c (b + 1) (by omega) (by omega), c (b + 3) (by omega) (by omega), c (b + 4) (by omega) (by omega), c (b + 5) (by omega) (by omega), c (b + 6) (by omega) (by omega), c (b + 7) (by omega) (by omega), c (b + 8) (by omega) (by omega), c (b + 9) (by omega) (by omega), c (b + 10) (by omega) (by omega), c (b + 11) (by omega) (by omega), c (b + 12) (by omega) (by omega), c2]
  exact h
theorem bkm_fr (h : BkM B τ) (m : ∀ a, 3 ≤ a → a ≤ 11 → τ'.1 a = τ.1 a) (m0 : ∀ j, j = 3 ∨ j = 8 → τ'.1 0 j = τ.1 0 j) (m2 : τ'.2 2 = τ.2 2) : BkM B τ' := by
  unfold BkM at h ⊢
  rw [m 3 (by omega) (by omega), m 4 (by omega) (by omega), m 5 (by omega) (by omega), m 6 (by omega) (by omega), m 7 (by omega) (by omega), m 8 (by omega) (by omega), m 9 (by omega) (by omega), m 10 (by omega) (by omega), m 11 (by omega) (by omega), m2, m0 3 (by omega), m0 8 (by omega)]
  exact h
theorem ntc_fr {b : Nat} (h : NtC B N σ b) (c : ∀ a, b ≤ a → a ≤ b + 3 → σ'.1 a = σ.1 a) : NtC B N σ' b := by
  unfold NtC at h ⊢
  rw [c b (by omega) (by omega), c (b + 1) (by omega) (by omega), c (b + 2) (by omega) (by omega), c (b + 3) (by omega) (by omega)]
  exact h
theorem netc_fr {h A W E h' : Nat → Int32} (k : NetC B N h A W E) (e : ∀ j, 3 ≤ j → j ≤ 6 → h' j = h j) : NetC B N h' A W E := by
  unfold NetC at k ⊢
  rw [e 3 (by omega) (by omega), e 4 (by omega) (by omega), e 5 (by omega) (by omega), e 6 (by omega) (by omega)]
  exact k
theorem ntm_fr (h : NtM B N τ) (m : ∀ a, 12 ≤ a → a ≤ 14 → τ'.1 a = τ.1 a) (m0 : ∀ j, j = 18 ∨ j = 19 → τ'.1 0 j = τ.1 0 j) : NtM B N τ' := by
  unfold NtM at h ⊢
  rw [m 12 (by omega) (by omega), m 13 (by omega) (by omega), m 14 (by omega) (by omega), m0 18 (by omega), m0 19 (by omega)]
  exact h
theorem cor_fr (h : Cor B N σ τ) (c : ∀ a, 64 ≤ a → a ≤ 80 → σ'.1 a = σ.1 a) (c2 : σ'.2 66 = σ.2 66) (m : ∀ a, 3 ≤ a → a ≤ 14 → τ'.1 a = τ.1 a) (m0 : ∀ j, j = 3 ∨ j = 8 ∨ j = 18 ∨ j = 19 → τ'.1 0 j = τ.1 0 j) (m2 : τ'.2 2 = τ.2 2) : Cor B N σ' τ' :=
  ⟨h.1, h.2.1, h.2.2.1, bkc_fr h.2.2.2.1 (fun a h1 h2 => c a h1 (by omega)) c2, bkm_fr h.2.2.2.2.1 (fun a h1 h2 => m a h1 (by omega)) (fun j hj => m0 j (by omega)) m2, ntc_fr h.2.2.2.2.2.1 (fun a h1 h2 => c a (by omega) (by omega)), ntm_fr h.2.2.2.2.2.2 (fun a h1 h2 => m a (by omega) h2) (fun j hj => m0 j (by omega))⟩
theorem tp_fr (h : TpR σ τ) (c : σ'.1 10 = σ.1 10) (c0 : σ'.1 9 6 = σ.1 9 6) (m : τ'.1 1 = τ.1 1) (m0 : τ'.1 0 1 = τ.1 0 1) : TpR σ' τ' := by
  unfold TpR at h ⊢
  rw [c, c0, m, m0]
  exact h
theorem ou_fr (h : OuR σ τ) (c : σ'.1 63 = σ.1 63) (c0 : σ'.1 62 1 = σ.1 62 1) (m : τ'.1 16 = τ.1 16) (m0 : τ'.1 0 28 = τ.1 0 28) : OuR σ' τ' := by
  unfold OuR at h ⊢
  rw [c, c0, m, m0]
  exact h
theorem jo_fr (h : JoR N σ τ q) (c : σ'.1 37 = σ.1 37) (c0 : σ'.1 36 = σ.1 36) (m : τ'.1 15 = τ.1 15) (m0 : ∀ j, 20 ≤ j → j ≤ 26 → τ'.1 0 j = τ.1 0 j) : JoR N σ' τ' q := by
  unfold JoR at h ⊢
  rw [c, c0, m, m0 20 (by omega) (by omega), m0 21 (by omega) (by omega), m0 22 (by omega) (by omega), m0 23 (by omega) (by omega), m0 26 (by omega) (by omega)]
  exact h
theorem sh_fr {s : Int} (h0 : 0 ≤ s) (h4 : s < 4) (h : ShR B σ τ s) (c : ∀ a, 39 ≤ a → a ≤ 54 → σ'.1 a = σ.1 a) (c0 : σ'.1 36 2 = σ.1 36 2) (m : ∀ a, 44 ≤ a → a ≤ 48 → τ'.1 a = τ.1 a) : ShR B σ' τ' s := by
  unfold ShR ShM NtC at h ⊢
  rw [c (39 + 4 * s.toNat) (by omega) (by omega), c (39 + 4 * s.toNat + 1) (by omega) (by omega), c (39 + 4 * s.toNat + 2) (by omega) (by omega), c (39 + 4 * s.toNat + 3) (by omega) (by omega), c0, m 44 (by omega) (by omega), m 45 (by omega) (by omega), m 46 (by omega) (by omega), m 47 (by omega) (by omega), m 48 (by omega) (by omega)]
  exact h
def EqC (σ σ' : St) : Prop := (∀ a, (36 ≤ a ∧ a ≤ 37) ∨ (39 ≤ a ∧ a ≤ 54) ∨ (62 ≤ a ∧ a ≤ 80) ∨ a = 10 → σ'.1 a = σ.1 a) ∧ σ'.1 1 7 = σ.1 1 7 ∧ σ'.1 9 6 = σ.1 9 6 ∧ σ'.2 0 9 = σ.2 0 9 ∧ σ'.2 66 = σ.2 66
def EqM (τ τ' : St) : Prop := (∀ a, (1 ≤ a ∧ a ≤ 16) ∨ a = 20 ∨ (44 ≤ a ∧ a ≤ 48) → τ'.1 a = τ.1 a) ∧ (∀ j, j ≤ 28 → τ'.1 0 j = τ.1 0 j) ∧ τ'.2 0 24 = τ.2 0 24 ∧ τ'.2 2 = τ.2 2
theorem eqc_rfl : EqC σ σ := ⟨fun _ _ => rfl, rfl, rfl, rfl, rfl⟩
theorem eqm_rfl : EqM τ τ := ⟨fun _ _ => rfl, fun _ _ => rfl, rfl, rfl⟩
theorem sim_fr (h : Sim σ τ q) (c : EqC σ σ') (m : EqM τ τ') : Sim σ' τ' q := by
  obtain ⟨B, N, h1, h2, h3, h4, h5, h6, h7, h8⟩ := h
  refine ⟨B, N, cor_fr h1 (fun a _ _ => c.1 a (by omega)) c.2.2.2.2 (fun a _ _ => m.1 a (by omega)) (fun j _ => m.2.1 j (by omega)) m.2.2.2, tp_fr h2 (c.1 10 (by omega)) c.2.2.1 (m.1 1 (by omega)) (m.2.1 1 (by omega)), ou_fr h3 (c.1 63 (by omega)) (by rw [c.1 62 (by omega)]) (m.1 16 (by omega)) (m.2.1 28 (by omega)), jo_fr h4 (c.1 37 (by omega)) (c.1 36 (by omega)) (m.1 15 (by omega)) (fun j _ _ => m.2.1 j (by omega)), fun s a b => sh_fr a b (h5 s a b) (fun a _ _ => c.1 a (by omega)) (by rw [c.1 36 (by omega)]) (fun a _ _ => m.1 a (by omega)), ?_, ?_, ?_⟩
  · rw [c.2.1, m.2.1 2 (by omega)]; exact h6
  · rw [c.2.2.2.1, m.2.2.1]; exact h7
  · rw [m.1 20 (by omega)]; exact h8
theorem sim_mono {q' : Int} (h : Sim σ τ q) (hq : q ≤ q') : Sim σ τ q' := by
  obtain ⟨B, N, h1, h2, h3, ⟨n, m, h4⟩, h5⟩ := h
  exact ⟨B, N, h1, h2, h3, ⟨n, m, h4.1, h4.2.1, by omega, h4.2.2.2⟩, h5⟩
end FRM
/-- both answer alike, and what they leave is alike -/
def Op (X Y : Option (Int32 × St)) (q : Int) : Prop := ∃ r σ' τ', X = some (r, σ') ∧ Y = some (r, τ') ∧ Sim σ' τ' q
section OPS
variable {σ τ : St} {q : Int}
theorem op_place (h : Sim σ τ q) : Op (some (f_X11_place σ, σ)) (some (f_X12_place τ, τ)) q := by
  refine ⟨_, _, _, rfl, ?_, h⟩
  obtain ⟨B, N, h1, h2, h3, h4, h5, h6, h7, h8⟩ := h
  unfold f_X11_place f_X12_place
  rw [h6]
theorem op_draw (h : Sim σ τ q) (p : Int32) : Op (f_X11_draw p σ) (f_X12_draw p τ) q := by
  unfold f_X11_draw f_X12_draw
  refine ⟨_, _, _, rfl, rfl, ?_⟩
  obtain ⟨B, N, h1, h2, h3, h4, h5, h6, h7, h8⟩ := h
  refine ⟨B, N, cor_fr h1 (fun _ _ _ => rfl) (setl_r (by omega)) (fun _ _ _ => rfl) (fun _ _ => rfl) (setl_r (by omega)), tp_fr h2 rfl rfl rfl rfl, ou_fr h3 rfl rfl rfl rfl, jo_fr h4 rfl rfl rfl (fun _ _ _ => rfl), fun s a b => sh_fr a b (h5 s a b) (fun _ _ _ => rfl) rfl (fun _ _ _ => rfl), h6, ?_, h8⟩
  simp [setl2]
theorem op_cut (h : Sim σ τ q) (p : Int32) : Op (f_X11_cut p σ) (f_X12_cut p τ) q := by
  unfold f_X11_cut f_X12_cut
  have h' := h
  obtain ⟨B, N, h1, ⟨n, n0, n1, n2, n3, n4⟩, h3, h4, h5, h6, h7, h8⟩ := h
  obtain ⟨z, rfl, z1, z2⟩ := I_ex p
  rw [x12_in]
  simp only [x64, Int32.toInt_toInt64, n2, n3, I_toInt z1 z2, I_toInt (show -2147483648 ≤ n by omega) (show n < 2147483648 by omega)]
  by_cases hz : 0 ≤ z ∧ z ≤ n
  · simp (disch := omega) only [I_lits, nz, nc, if_pos, if_neg, if_true, if_false, Option.bind_some, true_and, and_true, and_self, or_true, true_or, or_false, false_or, not_true_eq_false, not_false_eq_true, false_and, and_false, hz.1, hz.2, i01]
    refine ⟨_, _, _, rfl, rfl, B, N, cor_fr h1 (fun a _ _ => seti_r (by omega)) rfl (fun a _ _ => seti_r (by omega)) (fun j _ => ?_) rfl, ?_, ou_fr h3 (seti_r (by omega)) (by rw [seti_r (by omega)]) (seti_r (by omega)) ?_, jo_fr h4 (seti_r (by omega)) (seti_r (by omega)) (seti_r (by omega)) (fun j _ _ => ?_), fun s a b => sh_fr a b (h5 s a b) (fun a _ _ => seti_r (by omega)) (by rw [seti_r (by omega)]) (fun a _ _ => seti_r (by omega)), ?_, h7, ?_⟩
    · rw [seti1, if_neg (by omega)]
    · refine ⟨z, hz.1, by omega, ?_, ?_, ?_⟩
      · rw [seti1, if_pos (by omega)]
      · rw [seti1, if_pos (by omega)]
      · intro i i0 i1
        rw [seti_r (by omega), seti_r (by omega)]
        exact n4 i i0 (by omega)
    · rw [seti1, if_neg (by omega)]
    · rw [seti1, if_neg (by omega)]
    · rw [seti_r (by omega), seti1, if_neg (by omega)]; exact h6
    · rw [seti_r (by omega)]; exact h8
  · have : ¬ (0 ≤ z ∧ ¬ n < z) := by omega
    simp (disch := omega) only [I_lits, nz, nc, if_pos, if_neg, if_true, if_false, Option.bind_some, true_and, and_true, and_self, or_true, true_or, or_false, false_or, not_true_eq_false, not_false_eq_true, false_and, and_false, this, hz]
    exact ⟨_, _, _, rfl, rfl, h'⟩
theorem op_out (h : Sim σ τ q) (p : Int32) : Op ((f_X11_out p σ).map (fun r => (r, σ))) ((f_X12_out p τ).map (fun r => (r, τ))) q := by
  unfold f_X11_out f_X12_out f_X5_byteAt f_X11_isInside
  have h' := h
  obtain ⟨B, N, h1, h2, ⟨n, n0, n1, n2, n3, n4⟩, h4, h5, h6, h7, h8⟩ := h
  obtain ⟨z, rfl, z1, z2⟩ := I_ex p
  rw [x12_in]
  rw [n2, n3]
  simp (disch := omega) only [I_lits, nz, nc, x64, Int32.toInt_toInt64, I_toInt z1 z2, I_toInt (show -2147483648 ≤ n - 1 by omega) (show n - 1 < 2147483648 by omega)]
  by_cases hz : 0 ≤ z ∧ z < n
  · have := n4 z hz.1 hz.2
    simp (disch := omega) only [I_lits, nz, nc, if_pos, if_neg, if_true, if_false, Option.bind_some, true_and, and_true, and_self, or_true, true_or, or_false, false_or, not_true_eq_false, not_false_eq_true, false_and, and_false, hz.1, hz.2, i01]
    refine ⟨_, _, _, rfl, ?_, h'⟩
    rw [show I 255 = (255 : Int32) from rfl, this]
    rfl
  · simp (disch := omega) only [I_lits, nz, nc, if_pos, if_neg, if_true, if_false, Option.bind_some, true_and, and_true, and_self, or_true, true_or, or_false, false_or, not_true_eq_false, not_false_eq_true, false_and, and_false, hz, show ¬ (0 ≤ z ∧ z ≤ n - 1) from by omega]
    exact ⟨_, _, _, rfl, rfl, h'⟩
end OPS
