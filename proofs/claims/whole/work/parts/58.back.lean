/-! back, feed -/
section BCK
variable {B : BkT} {N : NtT} {σ τ : St} {q : Int} {F : Nat}
theorem op_back (h : Sim σ τ q) (hF : 10000 ≤ F) (p : Int32) : Op (f_X11_back p σ) (f_X12_back F p τ) q := by
  have hS := h
  obtain ⟨B, N, h1, h2, h3, h4, h5, h6, h7, h8⟩ := h
  have h1' := h1
  obtain ⟨hK, hR, hV, hBC, hBM, hNC, hNM⟩ := h1
  obtain ⟨z, rfl, z1, z2⟩ := I_ex p
  unfold f_X11_back f_X12_back
  rw [c_shelfAt z1 z2, m_isShelf z1 z2]
  by_cases hz : 0 ≤ z ∧ z < 4
  · rw [if_pos hz, if_pos hz]
    obtain ⟨z0, z4⟩ := hz
    have hin : inb (I z) 4 = true := (I_inb z1 z2).mpr ⟨z0, z4⟩
    simp only [Option.bind_some, i01, if_false, hin, if_true, I_ix z1 z2]
    rcases h5 z z0 z4 with ⟨k1, k2⟩ | ⟨k1, N', hV', hNC', hNM', m', hm1, hm2, hm3⟩
    · rw [k1, k2]
      simp (maxSteps := 4000000) (disch := omega) only [I_lits, nz, nc, if_pos, if_neg, if_true, if_false, Option.bind_some, true_and, and_true, and_self, or_true, true_or, or_false, false_or, not_true_eq_false, not_false_eq_true, false_and, and_false, Bool.false_eq_true, decide_true, decide_false, eq_self]
      exact ⟨_, _, _, rfl, rfl, hS⟩
    · have ke := hNM'.2.2.2.1
      have ke0 := hV'.1
      have ke8 := hV'.2.1
      rw [k1, ke]
      simp (maxSteps := 4000000) (disch := omega) only [I_lits, nz, nc, if_pos, if_neg, if_true, if_false, Option.bind_some, true_and, and_true, and_self, or_true, true_or, or_false, false_or, not_true_eq_false, not_false_eq_true, false_and, and_false, Bool.false_eq_true, decide_true, decide_false, eq_self]
      obtain ⟨σ1, c0, c1, c2, c3, c4, c5, c6⟩ := c_copyFrom (σ := σ) (a := 77) (b := 39 + 4 * z.toNat) (by omega)
      obtain ⟨τ1, d0, d1, d2, d3⟩ := copy_loop' (L := f_X12_back_L26 F (I z)) (a := 44) (b := 12) (d := 400 * z.toNat) (c := 400) (by omega) (by
        intro n j g hj
        rw [f_X12_back_L26]
        simp (maxSteps := 4000000) (disch := omega) only [I_lits, nz, nc, if_pos, if_neg, if_true, if_false, Option.bind_some, true_and, and_true, and_self, or_true, true_or, or_false, false_or, not_true_eq_false, not_false_eq_true, false_and, and_false, Bool.false_eq_true, decide_true, decide_false, eq_self]
        rw [show (400 * z + (j : Int)).toNat = 400 * z.toNat + j by omega, show ((j : Int)).toNat = j by omega]
        rfl) (by
        intro n g
        rw [f_X12_back_L26]
        simp (maxSteps := 4000000) (disch := omega) only [I_lits, nz, nc, if_pos, if_neg, if_true, if_false, Option.bind_some, true_and, and_true, and_self, or_true, true_or, or_false, false_or, not_true_eq_false, not_false_eq_true, false_and, and_false, Bool.false_eq_true, decide_true, decide_false, eq_self]
        try rfl) F 0 τ (by omega) (by omega)
      obtain ⟨τ2, e0, e1, e2, e3⟩ := copy_loop' (L := f_X12_back_L59 F (I z)) (a := 45) (b := 13) (d := 2000 * z.toNat) (c := 2000) (by omega) (by
        intro n j g hj
        rw [f_X12_back_L59]
        simp (maxSteps := 4000000) (disch := omega) only [I_lits, nz, nc, if_pos, if_neg, if_true, if_false, Option.bind_some, true_and, and_true, and_self, or_true, true_or, or_false, false_or, not_true_eq_false, not_false_eq_true, false_and, and_false, Bool.false_eq_true, decide_true, decide_false, eq_self]
        rw [show (2000 * z + (j : Int)).toNat = 2000 * z.toNat + j by omega, show ((j : Int)).toNat = j by omega]
        rfl) (by
        intro n g
        rw [f_X12_back_L59]
        simp (maxSteps := 4000000) (disch := omega) only [I_lits, nz, nc, if_pos, if_neg, if_true, if_false, Option.bind_some, true_and, and_true, and_self, or_true, true_or, or_false, false_or, not_true_eq_false, not_false_eq_true, false_and, and_false, Bool.false_eq_true, decide_true, decide_false, eq_self]
        try rfl) F 0 τ1 (by omega) (by omega)
      obtain ⟨τ3, g0, g1, g2, g3⟩ := copy_loop' (L := f_X12_back_L92 F (I z)) (a := 46) (b := 14) (d := 8 * z.toNat) (c := 8) (by omega) (by
        intro n j g hj
        rw [f_X12_back_L92]
        simp (maxSteps := 4000000) (disch := omega) only [I_lits, nz, nc, if_pos, if_neg, if_true, if_false, Option.bind_some, true_and, and_true, and_self, or_true, true_or, or_false, false_or, not_true_eq_false, not_false_eq_true, false_and, and_false, Bool.false_eq_true, decide_true, decide_false, eq_self]
        rw [show (8 * z + (j : Int)).toNat = 8 * z.toNat + j by omega, show ((j : Int)).toNat = j by omega]
        rfl) (by
        intro n g
        rw [f_X12_back_L92]
        simp (maxSteps := 4000000) (disch := omega) only [I_lits, nz, nc, if_pos, if_neg, if_true, if_false, Option.bind_some, true_and, and_true, and_self, or_true, true_or, or_false, false_or, not_true_eq_false, not_false_eq_true, false_and, and_false, Bool.false_eq_true, decide_true, decide_false, eq_self]
        try rfl) F 0 τ2 (by omega) (by omega)
      have d0' : f_X12_back_L26 F (I z) F (I 0) τ = some τ1 := d0
      have e0' : f_X12_back_L59 F (I z) F (I 0) τ1 = some τ2 := e0
      have g0' : f_X12_back_L92 F (I z) F (I 0) τ2 = some τ3 := g0
      have r3 : ∀ k, k ≠ 12 → k ≠ 13 → k ≠ 14 → τ3.1 k = τ.1 k := fun k a b c => by rw [g2 k c, e2 k b, d2 k a]
      have hc0 : f_X4_copyFrom 77 (39 + 4 * z.toNat) σ = some σ1 := c0
      simp only [d0', e0', g0', Option.bind_some, hc0, r3 47 (by omega) (by omega) (by omega), ke]
      have s48 : (seti τ3 0 18 (I (Ne N'))).1 48 = τ.1 48 := by rw [seti_r (by omega), r3 48 (by omega) (by omega) (by omega)]
      rw [s48]
      have hA : ∀ n, 0 ≤ n → n < 400 → τ3.1 12 n.toNat = I (Nk N' n) := by
        intro n n0 n1
        rw [g2 12 (by omega), e2 12 (by omega), d3, if_pos (by omega)]
        exact hNM'.1 n n0 n1
      rw [m_agentMany (N := N') (by
        intro n n0 n1
        rw [seti_r (by omega), seti_r (by omega)]
        exact hA n n0 n1) (b16 hK hV') hF]
      obtain ⟨n, m, jm, j0, j1, j2, j3, j4, j5, j6, j7, j8, j9⟩ := h4
      have hmm : m' = m := by
        rw [j7] at hm3
        have cb := (cnt_b (fun n => decide (0 ≤ Nk N' n)) 400).1
        have : 0 ≤ Ncn N' := cb
        exact ((I_eq (by omega) (by omega) (by omega) (by omega)).mp hm3).symm
      subst hmm
      have s21 : (seti (seti τ3 0 18 (I (Ne N'))) 0 19 (τ.1 48 z.toNat)).1 0 21 = I m' := by
        rw [seti1, if_neg (by omega), seti1, if_neg (by omega), r3 0 (by omega) (by omega) (by omega)]
        exact j8
      have hcn0 : 0 ≤ Ncn N' := (cnt_b (fun n => decide (0 ≤ Nk N' n)) 400).1
      rw [s21, Option.bind_some]
      simp (maxSteps := 4000000) (disch := omega) only [I_lits, nz, nc, if_pos, if_neg, if_true, if_false, Option.bind_some, true_and, and_true, and_self, or_true, true_or, or_false, false_or, not_true_eq_false, not_false_eq_true, false_and, and_false, Bool.false_eq_true, decide_true, decide_false, eq_self]
      rw [hNM'.2.2.2.2]
      have rC : ∀ k, k < 77 ∨ 80 < k → σ1.1 k = σ.1 k := fun k hk => c2 k hk
      have hr3 : σ1.1 (39 + 4 * z.toNat) 3 = I (Ncn N') := by
        rw [rC _ (by omega)]
        exact hNC'.2.2.2.1
      rw [hr3]
      refine ⟨_, _, _, rfl, rfl, B, N', ⟨hK, hR, hV', ?_, ?_, ?_, ?_⟩, tp_fr h2 (rC 10 (by omega)) (by rw [rC 9 (by omega)]) ?_ ?_, ou_fr h3 (rC 63 (by omega)) (by rw [rC 62 (by omega)]) ?_ ?_, ⟨n, m', hm1, j0, j1, ?_, ?_, ?_, j5, hm2, ?_, ?_, ?_, ?_, ?_, ?_⟩, fun s s0 s4 => sh_fr s0 s4 (h5 s s0 s4) (fun a _ _ => rC a (by omega)) (by rw [rC 36 (by omega)]) (fun a _ _ => ?_), ?_, ?_, ?_⟩
      · exact bkc_fr hBC (fun a _ _ => rC a (by omega)) (by rw [c1])
      · refine bkm_fr hBM (fun a _ _ => ?_) (fun j _ => ?_) ?_
        · rw [seti_r (by omega), seti_r (by omega), seti_r (by omega), r3 a (by omega) (by omega) (by omega)]
        · rw [seti1, if_neg (by omega), seti1, if_neg (by omega), seti1, if_neg (by omega), r3 0 (by omega) (by omega) (by omega)]
        · rw [seti2, seti2, seti2, g1, e1, d1]
      · refine netc_ext hV' hNC' ?_ ?_ ?_ ?_
        · intro j a b
          rw [c3, if_pos ⟨a, b⟩]
        · intro j hj
          rw [c4 j hj]
        · intro j hj
          rw [c5 j hj]
        · intro j hj
          rw [c6 j hj]
      · refine netm_ext hV' hNM' ?_ ?_ ?_ ?_ ?_
        · intro j hj
          rw [seti_r (by omega), seti_r (by omega), seti_r (by omega), g2 12 (by omega), e2 12 (by omega), d3, if_pos (by omega)]
        · intro j hj
          rw [seti_r (by omega), seti_r (by omega), seti_r (by omega), g2 13 (by omega), e3, if_pos (by omega), d2 45 (by omega)]
        · intro j hj
          rw [seti_r (by omega), seti_r (by omega), seti_r (by omega), g3, if_pos (by omega), e2 46 (by omega), d2 46 (by omega)]
        · rw [seti1, if_neg (by omega), seti1, if_neg (by omega), seti1, if_pos (by omega), ke]
        · rw [seti1, if_neg (by omega), seti1, if_pos (by omega), hNM'.2.2.2.2]
      · rw [seti_r (by omega), seti_r (by omega), seti_r (by omega), r3 1 (by omega) (by omega) (by omega)]
      · rw [seti1, if_neg (by omega), seti1, if_neg (by omega), seti1, if_neg (by omega), r3 0 (by omega) (by omega) (by omega)]
      · rw [seti_r (by omega), seti_r (by omega), seti_r (by omega), r3 16 (by omega) (by omega) (by omega)]
      · rw [seti1, if_neg (by omega), seti1, if_neg (by omega), seti1, if_neg (by omega), r3 0 (by omega) (by omega) (by omega)]
      · rw [rC 36 (by omega)]; exact j2
      · rw [seti1, if_neg (by omega), seti1, if_neg (by omega), seti1, if_neg (by omega), r3 0 (by omega) (by omega) (by omega)]; exact j3
      · rw [seti1, if_neg (by omega), seti1, if_neg (by omega), seti1, if_neg (by omega), r3 0 (by omega) (by omega) (by omega)]; exact j4
      · rw [rC 36 (by omega)]; exact j7
      · rw [seti1, if_pos (by omega)]
      · rw [rC 36 (by omega), seti1, if_neg (by omega), seti1, if_neg (by omega), seti1, if_neg (by omega), r3 0 (by omega) (by omega) (by omega)]; exact j9.1
      · rw [rC 36 (by omega), seti1, if_neg (by omega), seti1, if_neg (by omega), seti1, if_neg (by omega), r3 0 (by omega) (by omega) (by omega)]; exact j9.2.1
      · rw [seti1, if_neg (by omega), seti1, if_neg (by omega), seti1, if_neg (by omega), r3 0 (by omega) (by omega) (by omega)]; exact j9.2.2.1
      · rw [rC 37 (by omega), seti_r (by omega), seti_r (by omega), seti_r (by omega), r3 15 (by omega) (by omega) (by omega)]; exact j9.2.2.2
      · rw [seti_r (by omega), seti_r (by omega), seti_r (by omega), r3 a (by omega) (by omega) (by omega)]
      · rw [rC 1 (by omega), seti1, if_neg (by omega), seti1, if_neg (by omega), seti1, if_neg (by omega), r3 0 (by omega) (by omega) (by omega)]; exact h6
      · rw [c1, seti2, seti2, seti2, g1, e1, d1]; exact h7
      · rw [seti_r (by omega), seti_r (by omega), seti_r (by omega), r3 20 (by omega) (by omega) (by omega)]; exact h8
  · simp (maxSteps := 4000000) (disch := omega) only [I_lits, nz, nc, if_pos, if_neg, if_true, if_false, Option.bind_some, true_and, and_true, and_self, or_true, true_or, or_false, false_or, not_true_eq_false, not_false_eq_true, false_and, and_false, Bool.false_eq_true, decide_true, decide_false, eq_self, hz]
    exact ⟨_, _, _, rfl, rfl, hS⟩
/-! feed -/
def byt (c : Int32) (j : Nat) : Int32 := (c >>> (I (24 - 8 * (j % 4 : Nat)) &&& 31)) &&& 255
def bytc (c : Int32) (j : Nat) : Int32 := ((((c.toUInt32 >>> ((I (24 - 8 * (j % 4 : Nat))).toUInt32 &&& Int32.toUInt32 31)).toInt32).toInt8.toInt32).toInt8.toInt32)
theorem e255 : ∀ k : Nat, k < 32 → (255 : Int32).toBitVec.getLsbD k = decide (k < 8) := by decide
theorem byt_c (c : Int32) : ∀ j : Nat, bytc c j &&& (255 : Int32) = byt c j := by
  intro j
  have h4 : j % 4 = 0 ∨ j % 4 = 1 ∨ j % 4 = 2 ∨ j % 4 = 3 := by omega
  unfold byt bytc
  rcases h4 with h | h | h | h
  all_goals
    rw [h]
    apply Int32.toBitVec.inj
    apply BitVec.eq_of_getLsbD_eq
    intro i hi
    simp only [Int32.toBitVec_and, BitVec.getLsbD_and, e255 i hi]
    by_cases hi8 : i < 8
    · have a24 : ((I 24).toBitVec.toNat &&& 31) % 32 = 24 := by decide
      have a16 : ((I 16).toBitVec.toNat &&& 31) % 32 = 16 := by decide
      have a8 : ((I 8).toBitVec.toNat &&& 31) % 32 = 8 := by decide
      have a0 : ((I 0).toBitVec.toNat &&& 31) % 32 = 0 := by decide
      have b24 : (((I 24).toBitVec &&& 31#32).smod 32#32).toNat = 24 := by decide
      have b16 : (((I 16).toBitVec &&& 31#32).smod 32#32).toNat = 16 := by decide
      have b8 : (((I 8).toBitVec &&& 31#32).smod 32#32).toNat = 8 := by decide
      have b0 : (((I 0).toBitVec &&& 31#32).smod 32#32).toNat = 0 := by decide
      simp only [hi8, decide_true, Bool.and_true]
      simp [Int8.toBitVec_toInt32, Int32.toBitVec_toInt8, Int32.toBitVec_shiftRight, BitVec.getLsbD_signExtend, BitVec.getLsbD_setWidth, BitVec.getLsbD_sshiftRight, hi8, a24, a16, a8, a0, b24, b16, b8, b0, BitVec.signExtend_eq_setWidth_of_le, hi, show ¬ 32 ≤ i from by omega, show 24 + i < 32 from by omega, show 16 + i < 32 from by omega, show 8 + i < 32 from by omega]
      simp [BitVec.getElem_signExtend, BitVec.getElem_sshiftRight, hi8, show 24 + i < 32 from by omega, show 16 + i < 32 from by omega, show 8 + i < 32 from by omega]
      try rw [BitVec.getLsbD_eq_getElem hi]
    · simp only [hi8, decide_false, Bool.and_false]
end BCK
