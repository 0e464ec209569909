/-! keep, back -/
theorem cpy0 (f g : Nat → Int32) (n j : Nat) : va_cpy f g 0 0 n j = if j < n then f j else g j := by
  unfold va_cpy
  by_cases h : j < n
  · simp [h]
  · simp [h]
section KEP
variable {B : BkT} {N : NtT} {σ τ : St} {q : Int} {F : Nat}
theorem netc_ext (hV : NetV B N) {h A W E h' A' W' E' : Nat → Int32} (k : NetC B N h A W E) (e : ∀ j, 3 ≤ j → j ≤ 6 → h' j = h j) (eA : ∀ j, j < 400 → A' j = A j) (eW : ∀ j, j < 3200 → W' j = W j) (eE : ∀ j, j < 8 → E' j = E j) : NetC B N h' A' W' E' := by
  obtain ⟨k1, k2, k3, k4, k5, k6, k7⟩ := k
  have h8 := hV.2.1
  refine ⟨fun n h0 h1 => ?_, fun x hL h0 => ?_, fun x hL h0 => ?_, ?_, ?_, ?_, ?_⟩
  · rw [eA _ (by omega)]; exact k1 n h0 h1
  · have := liv_r hV hL
    rw [eW _ (by omega)]; exact k2 x hL h0
  · have hl : -2 - x < 8 := by
      rcases hL with q | q <;> omega
    rw [eE _ (by omega)]; exact k3 x hL h0
  · rw [e 3 (by omega) (by omega)]; exact k4
  · rw [e 4 (by omega) (by omega)]; exact k5
  · rw [e 5 (by omega) (by omega)]; exact k6
  · rw [e 6 (by omega) (by omega)]; exact k7
theorem netm_ext (hV : NetV B N) {A W E A' W' E' : Nat → Int32} {e g e' g' : Int32} (k : NetM B N A W E e g) (eA : ∀ j, j < 400 → A' j = A j) (eW : ∀ j, j < 2000 → W' j = W j) (eE : ∀ j, j < 8 → E' j = E j) (ee : e' = e) (eg : g' = g) : NetM B N A' W' E' e' g' := by
  obtain ⟨k1, k2, k3, k4, k5⟩ := k
  have h8 := hV.2.1
  refine ⟨fun n h0 h1 => ?_, fun x hL h0 => ?_, fun x hL h0 => ?_, by rw [ee]; exact k4, by rw [eg]; exact k5⟩
  · rw [eA _ (by omega)]; exact k1 n h0 h1
  · have := liv_r hV hL
    rw [eW _ (by omega)]; exact k2 x hL h0
  · have hl : -2 - x < 8 := by
      rcases hL with q | q <;> omega
    rw [eE _ (by omega)]; exact k3 x hL h0
theorem c_shelfAt {z : Int} (z1 : -2147483648 ≤ z) (z2 : z < 2147483648) : f_X11_shelfAt (I z) = some (if 0 ≤ z ∧ z < 4 then some (39 + 4 * z.toNat) else none) := by
  unfold f_X11_shelfAt f_X11_isInside
  by_cases h : 0 ≤ z ∧ z < 4
  · simp (maxSteps := 4000000) (disch := omega) only [I_lits, nz, nc, if_pos, if_neg, if_true, if_false, Option.bind_some, true_and, and_true, and_self, or_true, true_or, or_false, false_or, not_true_eq_false, not_false_eq_true, false_and, and_false, Bool.false_eq_true, decide_true, decide_false, eq_self, h.1, h.2]
  · simp (maxSteps := 4000000) (disch := omega) only [I_lits, nz, nc, if_pos, if_neg, if_true, if_false, Option.bind_some, true_and, and_true, and_self, or_true, true_or, or_false, false_or, not_true_eq_false, not_false_eq_true, false_and, and_false, Bool.false_eq_true, decide_true, decide_false, eq_self, h]
theorem m_isShelf {z : Int} (z1 : -2147483648 ≤ z) (z2 : z < 2147483648) : f_X12_isShelf (I z) = some (if 0 ≤ z ∧ z < 4 then (1 : Int32) else 0) := by
  unfold f_X12_isShelf
  rw [x12_in]
  simp only [x64, Int32.toInt_toInt64, I_toInt z1 z2]
  by_cases h : 0 ≤ z ∧ z < 4
  · simp (maxSteps := 4000000) (disch := omega) only [I_lits, nz, nc, if_pos, if_neg, if_true, if_false, Option.bind_some, true_and, and_true, and_self, or_true, true_or, or_false, false_or, not_true_eq_false, not_false_eq_true, false_and, and_false, Bool.false_eq_true, decide_true, decide_false, eq_self, h.1, h.2, show z ≤ 3 from by omega]
  · simp (maxSteps := 4000000) (disch := omega) only [I_lits, nz, nc, if_pos, if_neg, if_true, if_false, Option.bind_some, true_and, and_true, and_self, or_true, true_or, or_false, false_or, not_true_eq_false, not_false_eq_true, false_and, and_false, Bool.false_eq_true, decide_true, decide_false, eq_self, h, show ¬ (0 ≤ z ∧ z ≤ 3) from by omega]
theorem c_copyFrom {a b : Nat} (hab : a + 3 < b ∨ b + 3 < a) : ∃ σ', f_X4_copyFrom a b σ = some σ' ∧ σ'.2 = σ.2 ∧ (∀ k, k < a ∨ a + 3 < k → σ'.1 k = σ.1 k) ∧ (∀ j, σ'.1 a j = if 3 ≤ j ∧ j ≤ 6 then σ.1 b j else σ.1 a j) ∧ (∀ j, j < 400 → σ'.1 (a + 1) j = σ.1 (b + 1) j) ∧ (∀ j, j < 3200 → σ'.1 (a + 2) j = σ.1 (b + 2) j) ∧ (∀ j, j < 8 → σ'.1 (a + 3) j = σ.1 (b + 3) j) := by
  unfold f_X4_copyFrom
  simp only [Option.bind_some]
  rw [show ix (0 : Int32) = 0 from rfl, show ix (400 : Int32) = 400 from rfl, show ix (3200 : Int32) = 3200 from rfl, show ix (8 : Int32) = 8 from rfl]
  refine ⟨_, rfl, rfl, ?_, ?_, ?_, ?_, ?_⟩
  · intro k hk
    rw [seti_r (by omega), seti_r (by omega), seti_r (by omega), seti_r (by omega), setr_r (by omega), setr_r (by omega), setr_r (by omega)]
  · intro j
    have rb : ∀ (g : St) (i : Nat) (v : Int32), (seti g a i v).1 b = g.1 b := fun g i v => seti_r (by omega)
    have rs : ∀ (f g h : Nat → Int32), (setr (setr (setr σ (a + 1) f) (a + 2) g) (a + 3) h).1 b = σ.1 b := fun f g h => by rw [setr_r (by omega), setr_r (by omega), setr_r (by omega)]
    have ra : ∀ (f g h : Nat → Int32), (setr (setr (setr σ (a + 1) f) (a + 2) g) (a + 3) h).1 a = σ.1 a := fun f g h => by rw [setr_r (by omega), setr_r (by omega), setr_r (by omega)]
    simp only [rb, rs]
    rw [seti1, seti1, seti1, seti1, ra]
    by_cases h3 : j = 3
    · subst h3; simp
    · by_cases h4 : j = 4
      · subst h4; simp
      · by_cases h5 : j = 5
        · subst h5; simp
        · by_cases h6 : j = 6
          · subst h6; simp
          · rw [if_neg (by omega), if_neg (by omega), if_neg (by omega), if_neg (by omega), if_neg (by omega)]
  · intro j hj
    rw [seti_r (by omega), seti_r (by omega), seti_r (by omega), seti_r (by omega), setr_r (by omega), setr_r (by omega), setr1, if_pos rfl, cpy0, if_pos hj]
  · intro j hj
    rw [seti_r (by omega), seti_r (by omega), seti_r (by omega), seti_r (by omega), setr_r (by omega), setr1, if_pos rfl, cpy0, if_pos hj, setr_r (by omega)]
  · intro j hj
    rw [seti_r (by omega), seti_r (by omega), seti_r (by omega), seti_r (by omega), setr1, if_pos rfl, cpy0, if_pos hj, setr_r (by omega), setr_r (by omega)]
theorem op_keep (h : Sim σ τ q) (hF : 10000 ≤ F) (p : Int32) : Op (f_X11_keep p σ) (f_X12_keep F p τ) q := by
  have hS := h
  obtain ⟨B, N, h1, h2, h3, h4, h5, h6, h7, h8⟩ := h
  have h1' := h1
  obtain ⟨hK, hR, hV, hBC, hBM, hNC, hNM⟩ := h1
  obtain ⟨z, rfl, z1, z2⟩ := I_ex p
  unfold f_X11_keep f_X12_keep
  rw [c_shelfAt z1 z2, m_isShelf z1 z2]
  by_cases hz : 0 ≤ z ∧ z < 4
  · rw [if_pos hz, if_pos hz]
    obtain ⟨z0, z4⟩ := hz
    obtain ⟨σ1, c0, c1, c2, c3, c4, c5, c6⟩ := c_copyFrom (σ := σ) (a := 39 + 4 * z.toNat) (b := 77) (by omega)
    simp only [Option.bind_some, c0]
    obtain ⟨τ1, d0, d1, d2, d3⟩ := copy_loop (L := f_X12_keep_L13 F (I z)) (a := 12) (b := 44) (d := 400 * z.toNat) (c := 400) (by omega) (by
      intro n j g hj
      rw [f_X12_keep_L13]
      simp (maxSteps := 4000000) (disch := omega) only [I_lits, nz, nc, if_pos, if_neg, if_true, if_false, Option.bind_some, true_and, and_true, and_self, or_true, true_or, or_false, false_or, not_true_eq_false, not_false_eq_true, false_and, and_false, Bool.false_eq_true, decide_true, decide_false, eq_self]
      rw [show (400 * z + (j : Int)).toNat = 400 * z.toNat + j by omega, show ((j : Int)).toNat = j by omega]
      rfl) (by
      intro n g
      rw [f_X12_keep_L13]
      simp (maxSteps := 4000000) (disch := omega) only [I_lits, nz, nc, if_pos, if_neg, if_true, if_false, Option.bind_some, true_and, and_true, and_self, or_true, true_or, or_false, false_or, not_true_eq_false, not_false_eq_true, false_and, and_false, Bool.false_eq_true, decide_true, decide_false, eq_self]
      try rfl) F 0 τ (by omega) (by omega)
    obtain ⟨τ2, e0, e1, e2, e3⟩ := copy_loop (L := f_X12_keep_L46 F (I z)) (a := 13) (b := 45) (d := 2000 * z.toNat) (c := 2000) (by omega) (by
      intro n j g hj
      rw [f_X12_keep_L46]
      simp (maxSteps := 4000000) (disch := omega) only [I_lits, nz, nc, if_pos, if_neg, if_true, if_false, Option.bind_some, true_and, and_true, and_self, or_true, true_or, or_false, false_or, not_true_eq_false, not_false_eq_true, false_and, and_false, Bool.false_eq_true, decide_true, decide_false, eq_self]
      rw [show (2000 * z + (j : Int)).toNat = 2000 * z.toNat + j by omega, show ((j : Int)).toNat = j by omega]
      rfl) (by
      intro n g
      rw [f_X12_keep_L46]
      simp (maxSteps := 4000000) (disch := omega) only [I_lits, nz, nc, if_pos, if_neg, if_true, if_false, Option.bind_some, true_and, and_true, and_self, or_true, true_or, or_false, false_or, not_true_eq_false, not_false_eq_true, false_and, and_false, Bool.false_eq_true, decide_true, decide_false, eq_self]
      try rfl) F 0 τ1 (by omega) (by omega)
    obtain ⟨τ3, g0, g1, g2, g3⟩ := copy_loop (L := f_X12_keep_L79 F (I z)) (a := 14) (b := 46) (d := 8 * z.toNat) (c := 8) (by omega) (by
      intro n j g hj
      rw [f_X12_keep_L79]
      simp (maxSteps := 4000000) (disch := omega) only [I_lits, nz, nc, if_pos, if_neg, if_true, if_false, Option.bind_some, true_and, and_true, and_self, or_true, true_or, or_false, false_or, not_true_eq_false, not_false_eq_true, false_and, and_false, Bool.false_eq_true, decide_true, decide_false, eq_self]
      rw [show (8 * z + (j : Int)).toNat = 8 * z.toNat + j by omega, show ((j : Int)).toNat = j by omega]
      rfl) (by
      intro n g
      rw [f_X12_keep_L79]
      simp (maxSteps := 4000000) (disch := omega) only [I_lits, nz, nc, if_pos, if_neg, if_true, if_false, Option.bind_some, true_and, and_true, and_self, or_true, true_or, or_false, false_or, not_true_eq_false, not_false_eq_true, false_and, and_false, Bool.false_eq_true, decide_true, decide_false, eq_self]
      try rfl) F 0 τ2 (by omega) (by omega)
    have d0' : f_X12_keep_L13 F (I z) F (0 : Int32) τ = some τ1 := d0
    have e0' : f_X12_keep_L46 F (I z) F (0 : Int32) τ1 = some τ2 := e0
    have g0' : f_X12_keep_L79 F (I z) F (0 : Int32) τ2 = some τ3 := g0
    have hin : inb (I z) 4 = true := (I_inb z1 z2).mpr ⟨z0, z4⟩
    simp only [d0', e0', g0', Option.bind_some, hin, if_true, I_ix z1 z2, i01, if_false]
    have r3 : ∀ k, k ≠ 44 → k ≠ 45 → k ≠ 46 → τ3.1 k = τ.1 k := fun k a b c => by rw [g2 k c, e2 k b, d2 k a]
    rw [m_agentMany (N := N) (τ := seti (seti τ3 47 z.toNat (τ3.1 0 18)) 48 z.toNat ((seti τ3 47 z.toNat (τ3.1 0 18)).1 0 19)) (by
      intro n n0 n1
      rw [seti_r (by omega), seti_r (by omega), r3 12 (by omega) (by omega) (by omega)]
      exact hNM.1 n n0 n1) (b16 hK hV) hF]
    have hr3 : (seti σ1 (39 + 4 * z.toNat) 7 1).1 (39 + 4 * z.toNat) 3 = I (Ncn N) := by
      rw [seti1, if_neg (by omega), c3, if_pos (by omega)]
      exact hNC.2.2.2.1
    rw [Option.bind_some, hr3]
    refine ⟨_, _, _, rfl, rfl, ?_⟩
    · have rC : ∀ k, k < 39 + 4 * z.toNat ∨ 39 + 4 * z.toNat + 3 < k → (seti σ1 (39 + 4 * z.toNat) 7 1).1 k = σ.1 k := fun k hk => by rw [seti_r (by omega), c2 k hk]
      have rM : ∀ k, k < 44 ∨ 48 < k → (seti (seti τ3 47 z.toNat (τ3.1 0 18)) 48 z.toNat ((seti τ3 47 z.toNat (τ3.1 0 18)).1 0 19)).1 k = τ.1 k := fun k hk => by rw [seti_r (by omega), seti_r (by omega), r3 k (by omega) (by omega) (by omega)]
      refine ⟨B, N, cor_fr h1' (fun a _ _ => rC a (by omega)) (by rw [seti2, c1]) (fun a _ _ => rM a (by omega)) (fun j _ => by rw [rM 0 (by omega)]) (by rw [seti2, seti2, g1, e1, d1]), tp_fr h2 (rC 10 (by omega)) (by rw [rC 9 (by omega)]) (rM 1 (by omega)) (by rw [rM 0 (by omega)]), ou_fr h3 (rC 63 (by omega)) (by rw [rC 62 (by omega)]) (rM 16 (by omega)) (by rw [rM 0 (by omega)]), jo_fr h4 (rC 37 (by omega)) (rC 36 (by omega)) (rM 15 (by omega)) (fun j _ _ => by rw [rM 0 (by omega)]), fun s s0 s4 => ?_, ?_, ?_, ?_⟩
      · by_cases hs : s = z
        · subst hs
          obtain ⟨n, m, jm, j0, j1, j2, j3, j4, j5, j6, j7, j8⟩ := h4
          refine Or.inr ⟨by rw [seti1, if_pos (by omega)], N, hV, ?_, ?_, m, jm, j6, by rw [rC 36 (by omega)]; exact j7⟩
          · refine netc_ext hV hNC ?_ ?_ ?_ ?_
            · intro j a b
              rw [seti1, if_neg (by omega), c3, if_pos ⟨a, b⟩]
            · intro j hj
              rw [seti_r (by omega), c4 j hj]
            · intro j hj
              rw [seti_r (by omega), c5 j hj]
            · intro j hj
              rw [seti_r (by omega), c6 j hj]
          · refine netm_ext hV hNM ?_ ?_ ?_ ?_ ?_
            · intro j hj
              show (seti _ 48 _ _).1 44 _ = _
              rw [seti_r (by omega), seti_r (by omega), g2 44 (by omega), e2 44 (by omega), d3, if_pos (by omega), Nat.add_sub_cancel_left]
            · intro j hj
              show (seti _ 48 _ _).1 45 _ = _
              rw [seti_r (by omega), seti_r (by omega), g2 45 (by omega), e3, if_pos (by omega), Nat.add_sub_cancel_left, d2 13 (by omega)]
            · intro j hj
              show (seti _ 48 _ _).1 46 _ = _
              rw [seti_r (by omega), seti_r (by omega), g3, if_pos (by omega), Nat.add_sub_cancel_left, e2 14 (by omega), d2 14 (by omega)]
            · rw [seti_r (by omega), seti1, if_pos ⟨rfl, rfl⟩, r3 0 (by omega) (by omega) (by omega)]
            · rw [seti1, if_pos ⟨rfl, rfl⟩, seti_r (by omega), r3 0 (by omega) (by omega) (by omega)]
        · have hh := h5 s s0 s4
          unfold ShR ShM NtC at hh ⊢
          rw [rC (39 + 4 * s.toNat) (by omega), rC (39 + 4 * s.toNat + 1) (by omega), rC (39 + 4 * s.toNat + 2) (by omega), rC (39 + 4 * s.toNat + 3) (by omega), rC 36 (by omega)]
          have m47 : (seti (seti τ3 47 z.toNat (τ3.1 0 18)) 48 z.toNat ((seti τ3 47 z.toNat (τ3.1 0 18)).1 0 19)).1 47 s.toNat = τ.1 47 s.toNat := by
            rw [seti_r (by omega), seti1, if_neg (by omega), r3 47 (by omega) (by omega) (by omega)]
          have m48 : (seti (seti τ3 47 z.toNat (τ3.1 0 18)) 48 z.toNat ((seti τ3 47 z.toNat (τ3.1 0 18)).1 0 19)).1 48 s.toNat = τ.1 48 s.toNat := by
            rw [seti1, if_neg (by omega), seti_r (by omega), r3 48 (by omega) (by omega) (by omega)]
          rw [m47, m48]
          rcases hh with hh | ⟨hh1, N', hV', hh2, hh3, hh4⟩
          · exact Or.inl hh
          · refine Or.inr ⟨hh1, N', hV', hh2, netm_ext hV' hh3 ?_ ?_ ?_ rfl rfl, hh4⟩
            · intro j hj
              show (seti _ 48 _ _).1 44 _ = _
              rw [seti_r (by omega), seti_r (by omega), g2 44 (by omega), e2 44 (by omega), d3, if_neg (by omega)]
            · intro j hj
              show (seti _ 48 _ _).1 45 _ = _
              rw [seti_r (by omega), seti_r (by omega), g2 45 (by omega), e3, if_neg (by omega), d2 45 (by omega)]
            · intro j hj
              show (seti _ 48 _ _).1 46 _ = _
              rw [seti_r (by omega), seti_r (by omega), g3, if_neg (by omega), e2 46 (by omega), d2 46 (by omega)]
      · rw [rC 1 (by omega), rM 0 (by omega)]; exact h6
      · rw [seti2, seti2, seti2, c1, g1, e1, d1]; exact h7
      · rw [rM 20 (by omega)]; exact h8
  · simp (maxSteps := 4000000) (disch := omega) only [I_lits, nz, nc, if_pos, if_neg, if_true, if_false, Option.bind_some, true_and, and_true, and_self, or_true, true_or, or_false, false_or, not_true_eq_false, not_false_eq_true, false_and, and_false, Bool.false_eq_true, decide_true, decide_false, eq_self, hz]
    exact ⟨_, _, _, rfl, rfl, hS⟩
end KEP
