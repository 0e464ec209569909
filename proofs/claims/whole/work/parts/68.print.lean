section PR2
variable {σ τ : St} {q : Int} {F : Nat}
theorem op_print (h : Sim σ τ q) (hF : 10000 + bnd 40 ≤ F) (p : Int32) : Op (f_X11_print F p σ) (f_X12_print F p τ) q := by
  have hS := h
  have hF' : 10000 ≤ F := by omega
  obtain ⟨B, N, h1, h2, h3, h4, h5, h6, h7, h8⟩ := h
  have hC := h1
  obtain ⟨hK, hR, hV, hBC, hBM, hNC, hNM⟩ := h1
  obtain ⟨z, rfl, z1, z2⟩ := I_ex p
  unfold f_X11_print f_X12_print f_X4_hasEnd f_X11_isInside f_X11_endCode
  have he := hNC.2.2.2.2.1
  have hm := hNM.2.2.2.1
  have h0 := hV.1
  have h8' := hV.2.1
  rw [he, hm, x12_in]
  simp (maxSteps := 4000000) (disch := omega) only [I_lits, nz, nc, x64, Int32.toInt_toInt64, I_toInt z1 z2, I_toInt (show -2147483648 ≤ Ne N - 1 by omega) (show Ne N - 1 < 2147483648 by omega)]
  by_cases hz : 0 ≤ z ∧ z < Ne N
  · have hL : NLiv B N (-2 - z) := Or.inl ⟨by omega, by omega⟩
    have hC0 : Cor B N (seti σ 62 1 (I 0)) (seti τ 0 28 (I 0)) := cor_fr hC (fun a _ _ => seti_r (by omega)) rfl (fun a _ _ => seti_r (by omega)) (fun j _ => by rw [seti1, if_neg (by omega)]) rfl
    have hP : PR (seti σ 62 1 (I 0)) (seti τ 0 28 (I 0)) (seti σ 62 1 (I 0)) (seti τ 0 28 (I 0)) := by
      refine ⟨⟨0, by omega, by omega, by rw [seti1, if_pos ⟨rfl, rfl⟩], by rw [seti1, if_pos ⟨rfl, rfl⟩], fun i i0 i1 => by omega⟩, rfl, fun _ _ _ => rfl, rfl, fun _ _ _ _ _ => rfl, fun _ _ => rfl⟩
    obtain ⟨σ', τ', M, m1, c1, c2, c3, c4⟩ := s_tree hC0 hF' 40 0 (by omega) (by omega) (Nw N (-2 - z)) _ _ (hV.2.2.2 _ hL).1 hP
    have hw := c_wireOf hV hC0.2.2.2.2.2.1 hL
    rw [to8_n (by omega)] at hw
    have hmm := hC0.2.2.2.2.2.2.2.2.1 _ hL (by omega)
    rw [show -2 - (-2 - z) = z by omega] at hmm
    have hX : Cn F (F - M) 0 τ' (some τ') := by
      intro m w' hm'
      obtain ⟨m', rfl⟩ : ∃ m', m = m' + 1 := ⟨m - 1, by omega⟩
      obtain ⟨n', hn'⟩ : ∃ n', F - M = n' + 1 := ⟨F - M - 1, by omega⟩
      rw [f_X12_print_L176, if_neg (fun q => Int32.lt_irrefl q.1), Option.bind_some, hn', f_X12_print_L37, if_pos (by rfl)]
    have c4' := c4 (F - M) (some τ') hX
    rw [show F - M + M = F by omega] at c4'
    have c1' := c1 45 (by omega)
    simp (maxSteps := 4000000) (disch := omega) only [I_lits, nz, nc, if_pos, if_neg, if_true, if_false, Option.bind_some, true_and, and_true, and_self, or_true, true_or, or_false, false_or, not_true_eq_false, not_false_eq_true, false_and, and_false, Bool.false_eq_true, decide_true, decide_false, eq_self, hz.1, hz.2, i01, hw, hmm, show z ≤ Ne N - 1 from by omega, c1', c4']
    obtain ⟨⟨n, n0, n1, n2, n3, n4⟩, q2, q3, q4, q5, q6⟩ := c2
    rw [n2, n3]
    have rC : ∀ k, k ≠ 62 → k ≠ 63 → σ'.1 k = σ.1 k := fun k a b => by rw [q3 k a b, seti_r a]
    have rM : ∀ k, k ≠ 0 → k ≠ 16 → k ≠ 52 → k ≠ 53 → τ'.1 k = τ.1 k := fun k a b c d => by rw [q5 k a b c d, seti_r a]
    have r0 : ∀ j, j ≠ 28 → τ'.1 0 j = τ.1 0 j := fun j hj => by rw [q6 j hj, seti1, if_neg (by omega)]
    refine ⟨_, _, _, rfl, rfl, B, N, cor_fr hC (fun a _ _ => rC a (by omega) (by omega)) (by rw [q2]; rfl) (fun a _ _ => rM a (by omega) (by omega) (by omega) (by omega)) (fun j _ => r0 j (by omega)) (by rw [q4]; rfl), tp_fr h2 (rC 10 (by omega) (by omega)) (by rw [rC 9 (by omega) (by omega)]) (rM 1 (by omega) (by omega) (by omega) (by omega)) (r0 1 (by omega)), ⟨n, n0, n1, n2, n3, n4⟩, jo_fr h4 (rC 37 (by omega) (by omega)) (rC 36 (by omega) (by omega)) (rM 15 (by omega) (by omega) (by omega) (by omega)) (fun j _ _ => r0 j (by omega)), fun s x y => sh_fr x y (h5 s x y) (fun a _ _ => rC a (by omega) (by omega)) (by rw [rC 36 (by omega) (by omega)]) (fun a _ _ => rM a (by omega) (by omega) (by omega) (by omega)), ?_, ?_, ?_⟩
    · rw [rC 1 (by omega) (by omega), r0 2 (by omega)]; exact h6
    · rw [q2, q4]; exact h7
    · rw [rM 20 (by omega) (by omega) (by omega) (by omega)]; exact h8
  · simp (maxSteps := 4000000) (disch := omega) only [I_lits, nz, nc, if_pos, if_neg, if_true, if_false, Option.bind_some, true_and, and_true, and_self, or_true, true_or, or_false, false_or, not_true_eq_false, not_false_eq_true, false_and, and_false, Bool.false_eq_true, decide_true, decide_false, eq_self, hz, show ¬ (0 ≤ z ∧ z ≤ Ne N - 1) from by omega]
    exact ⟨_, _, _, rfl, rfl, hS⟩
end PR2
