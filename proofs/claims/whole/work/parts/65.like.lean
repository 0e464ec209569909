section LK2
variable {B : BkT} {N N' : NtT} {σ τ : St} {q : Int} {F : Nat} {b : Nat} {s : Int}
/-- what like() looks at -/
def lkA (W W' : WkT) (B : BkT) (N N' : NtT) (i : Int) : Bool := decide (Nk N (Wo' W i) = Nk N' (Wo' W' i)) && allB (fun p => decide (nb W (Nw N (5 * Wo' W i + p)) = nb W' (Nw N' (5 * Wo' W' i + p)))) (Bpt B (Nk N (Wo' W i))).toNat 0
def lkE (W W' : WkT) (N N' : NtT) (e : Int) : Bool := decide (nb W (Nw N (-2 - e)) = nb W' (Nw N' (-2 - e)))
def lkK (N N' : NtT) (k : Int) : Bool := decide (cnt (fun n => decide (Nk N n = k)) 400 = cnt (fun n => decide (Nk N' n = k)) 400)
theorem to8_eq {x y : Int} (hx : -9 ≤ x ∧ x < 2000) (hy : -9 ≤ y ∧ y < 2000) : I (to8 x) = I (to8 y) ↔ x = y := by
  have h1 := to8_r hx.1 hx.2
  have h2 := to8_r hy.1 hy.2
  rw [I_eq (by omega) (by omega) (by omega) (by omega)]
  exact ⟨to8_inj, fun h => by rw [h]⟩
theorem m_manyOf (hV : ∀ n, 0 ≤ n → n < 400 → -1 ≤ Nk N n ∧ Nk N n < 16) (hF : 10000 ≤ F) {c : Int} (hA : ∀ n, 0 ≤ n → n < 400 → f_X12_agentOf (I c) (I s) (I n) τ = some (I (Nk N n))) {k : Int} (h0 : 0 ≤ k) (h1 : k < 16) : f_X12_manyOf F (I c) (I s) (I k) τ = some (I (cnt (fun n => decide (Nk N n = k)) 400)) := by
  unfold f_X12_manyOf
  have := cnt_loop (L := f_X12_manyOf_L6 F (I c) (I s) (I k) τ) (p := fun n => decide (Nk N n = k)) (c := 400) (by
    intro n v j hj
    have e := hA j (by omega) (by omega)
    have bb := hV j (by omega) (by omega)
    rw [f_X12_manyOf_L6]
    by_cases h : Nk N j = k
    · simp (maxSteps := 4000000) (disch := omega) only [I_lits, nz, nc, if_pos, if_neg, if_true, if_false, Option.bind_some, true_and, and_true, and_self, or_true, true_or, or_false, false_or, not_true_eq_false, not_false_eq_true, false_and, and_false, Bool.false_eq_true, decide_true, decide_false, eq_self, e, h]
    · simp (maxSteps := 4000000) (disch := omega) only [I_lits, nz, nc, if_pos, if_neg, if_true, if_false, Option.bind_some, true_and, and_true, and_self, or_true, true_or, or_false, false_or, not_true_eq_false, not_false_eq_true, false_and, and_false, Bool.false_eq_true, decide_true, decide_false, eq_self, e, h]) (by
    intro n v
    rw [f_X12_manyOf_L6]
    rw [if_neg (by exact Int32.lt_irrefl)]) F 0 (by omega) (by omega)
  rw [show f_X12_manyOf_L6 F (I c) (I s) (I k) τ F 0 0 = _ from this]
  rfl
theorem c_sameCounts (hV : ∀ n, 0 ≤ n → n < 400 → -1 ≤ Nk N n ∧ Nk N n < 16) (hV' : ∀ n, 0 ≤ n → n < 400 → -1 ≤ Nk N' n ∧ Nk N' n < 16) (hC : NtC B N σ 77) (hC' : NtC B N' σ b) (hF : 10000 ≤ F) : f_X10_hasSameCounts F b σ = some (I (if allB (lkK N N') 16 0 then 1 else 0)) := by
  unfold f_X10_hasSameCounts
  refine all_loopC (L := f_X10_hasSameCounts_L2 F b σ) (p := lkK N N') (c := 16) (v := 0) ?_ ?_ F 16 0 (by omega) (by omega) (by omega)
  · intro n j j0 j1
    rw [f_X10_hasSameCounts_L2, c_countOfKind hC hV hF j0 j1, c_countOfKind hC' hV' hF j0 j1]
    have b1 := cnt_b (fun n => decide (Nk N n = j)) 400
    have b2 := cnt_b (fun n => decide (Nk N' n = j)) 400
    simp (maxSteps := 4000000) (disch := omega) only [I_lits, nz, nc, if_pos, if_neg, if_true, if_false, Option.bind_some, true_and, and_true, and_self, or_true, true_or, or_false, false_or, not_true_eq_false, not_false_eq_true, false_and, and_false, Bool.false_eq_true, decide_true, decide_false, eq_self]
    unfold lkK
    by_cases h : cnt (fun n => decide (Nk N n = j)) 400 = cnt (fun n => decide (Nk N' n = j)) 400
    · simp (maxSteps := 4000000) (disch := omega) only [I_lits, nz, nc, if_pos, if_neg, if_true, if_false, Option.bind_some, true_and, and_true, and_self, or_true, true_or, or_false, false_or, not_true_eq_false, not_false_eq_true, false_and, and_false, Bool.false_eq_true, decide_true, decide_false, eq_self, h]
    · simp (maxSteps := 4000000) (disch := omega) only [I_lits, nz, nc, if_pos, if_neg, if_true, if_false, Option.bind_some, true_and, and_true, and_self, or_true, true_or, or_false, false_or, not_true_eq_false, not_false_eq_true, false_and, and_false, Bool.false_eq_true, decide_true, decide_false, eq_self, h]
  · intro n
    rw [f_X10_hasSameCounts_L2, if_neg (by exact Int32.lt_irrefl)]
    rfl
theorem c_sameEnds {W W' : WkT} (hV : NetV B N) (hV' : NetV B N') (hC : NtC B N σ 77) (hC' : NtC B N' σ b) (hI : WkI N W) (hI' : WkI N' W') (hW : WkC W σ 56) (hW' : WkC W' σ 59) (hE : ∀ e, 0 ≤ e → e < Ne N → Rkd W (Nw N (-2 - e))) (hE' : ∀ e, 0 ≤ e → e < Ne N' → Rkd W' (Nw N' (-2 - e))) (hee : Ne N = Ne N') (hF : 10000 ≤ F) : f_X10_hasSameEnds F b σ = some (I (if allB (lkE W W' N N') (Ne N).toNat 0 then 1 else 0)) := by
  unfold f_X10_hasSameEnds
  have he8 := hV.2.1
  have he0 := hV.1
  refine all_loopC (L := f_X10_hasSameEnds_L3 F b σ) (p := lkE W W' N N') (c := Ne N) (v := 0) ?_ ?_ F (Ne N).toNat 0 (by omega) (by omega) (by omega)
  · intro n j j0 j1
    have hL : NLiv B N (-2 - j) := Or.inl ⟨by omega, by omega⟩
    have hL' : NLiv B N' (-2 - j) := Or.inl ⟨by omega, by omega⟩
    have w1 := c_wireOf hV hC hL
    have w2 := c_wireOf hV' hC' hL'
    rw [to8_n (by omega)] at w1 w2
    have l1 := liv_r hV (hV.2.2.2 _ hL).1
    have l2 := liv_r hV' (hV'.2.2.2 _ hL').1
    have r1 := hE j j0 j1
    have r2 := hE' j j0 (by omega)
    have n1 := c_numb hI hW l1.1 l1.2 r1
    have n2 := c_numb hI' hW' l2.1 l2.2 r2
    have q1 := nb_r hI l1.1 l1.2 r1
    have q2 := nb_r hI' l2.1 l2.2 r2
    rw [f_X10_hasSameEnds_L3, hC.2.2.2.2.1]
    unfold f_X11_endCode
    simp (maxSteps := 4000000) (disch := omega) only [I_lits, nz, nc, if_pos, if_neg, if_true, if_false, Option.bind_some, true_and, and_true, and_self, or_true, true_or, or_false, false_or, not_true_eq_false, not_false_eq_true, false_and, and_false, Bool.false_eq_true, decide_true, decide_false, eq_self, w1, w2, n1, n2, to8_eq q1 q2]
    unfold lkE
    by_cases h : nb W (Nw N (-2 - j)) = nb W' (Nw N' (-2 - j))
    · simp (maxSteps := 4000000) (disch := omega) only [I_lits, nz, nc, if_pos, if_neg, if_true, if_false, Option.bind_some, true_and, and_true, and_self, or_true, true_or, or_false, false_or, not_true_eq_false, not_false_eq_true, false_and, and_false, Bool.false_eq_true, decide_true, decide_false, eq_self, h]
    · simp (maxSteps := 4000000) (disch := omega) only [I_lits, nz, nc, if_pos, if_neg, if_true, if_false, Option.bind_some, true_and, and_true, and_self, or_true, true_or, or_false, false_or, not_true_eq_false, not_false_eq_true, false_and, and_false, Bool.false_eq_true, decide_true, decide_false, eq_self, h]
  · intro n
    rw [f_X10_hasSameEnds_L3, hC.2.2.2.2.1, if_neg (by exact Int32.lt_irrefl)]
    rfl
theorem c_sameAgents {W W' : WkT} (hK : KdV B) (hV : NetV B N) (hV' : NetV B N') (hBC : BkC B σ 64) (hC : NtC B N σ 77) (hC' : NtC B N' σ b) (hI : WkI N W) (hI' : WkI N' W') (hW : WkC W σ 56) (hW' : WkC W' σ 59) (hD : Don B N W (Ws W)) (hD' : Don B N' W' (Ws W')) (hss : Ws W = Ws W') (hF : 10000 ≤ F) : f_X10_hasSameAgents F b σ = some (I (if allB (lkA W W' B N N') (Ws W).toNat 0 then 1 else 0)) := by
  unfold f_X10_hasSameAgents
  have hs0 := hI.1
  have hs1 := hI.2.1
  have h16 := hK.2.1
  refine all_loopC (L := f_X10_hasSameAgents_L3 F b σ) (p := lkA W W' B N N') (c := Ws W) (v := 0) ?_ ?_ F (Ws W).toNat 0 (by omega) (by omega) (by omega)
  · intro n j j0 j1
    have i1 := hI.2.2.1 j j0 j1
    have i2 := hI'.2.2.1 j j0 (by omega)
    have e1 := hW.2.1 j j0 j1
    have e2 := hW'.2.1 j j0 (by omega)
    have k1 := hV.2.2.1 _ i1.1 i1.2.1
    have k2 := hV'.2.2.1 _ i2.1 i2.2.1
    have pb := hK.2.2.1 _ i1.2.2.1 k1.2
    have c1 := c_kindOf hC (n := Wo' W j) (by omega) (by omega)
    have c2 := c_kindOf hC' (n := Wo' W' j) (by omega) (by omega)
    rw [if_pos ⟨i1.1, i1.2.1⟩] at c1
    rw [if_pos ⟨i2.1, i2.2.1⟩] at c2
    have c3 := c_portsOf hBC hK (k := Nk N (Wo' W j)) (by omega) (by omega)
    rw [if_pos ⟨i1.2.2.1, k1.2⟩] at c3
    rw [f_X10_hasSameAgents_L3, hW.1]
    simp (maxSteps := 4000000) (disch := omega) only [I_lits, nz, nc, if_pos, if_neg, if_true, if_false, Option.bind_some, true_and, and_true, and_self, or_true, true_or, or_false, false_or, not_true_eq_false, not_false_eq_true, false_and, and_false, Bool.false_eq_true, decide_true, decide_false, eq_self, e1, e2, c1, c2, c3]
    unfold lkA
    by_cases hk : Nk N (Wo' W j) = Nk N' (Wo' W' j)
    · rw [if_pos hk]
      have inner : ∀ (f m : Nat) (p : Int), 0 ≤ p → p + m = Bpt B (Nk N (Wo' W j)) → m < f → f_X10_hasSameAgents_L71 F b (I j) (I (Wo' W j)) (I (Wo' W' j)) (I (Bpt B (Nk N (Wo' W j)))) σ (fun _ => f_X10_hasSameAgents_L3 F b σ n (I (j + 1))) f (I p) = if allB (fun p => decide (nb W (Nw N (5 * Wo' W j + p)) = nb W' (Nw N' (5 * Wo' W' j + p)))) m p then f_X10_hasSameAgents_L3 F b σ n (I (j + 1)) else some (I 0) := by
        intro f
        induction f with
        | zero => intro m p a b c; omega
        | succ f ih =>
          intro m p p0 p1 p2
          rw [f_X10_hasSameAgents_L71]
          cases m with
          | zero =>
            rw [if_neg (by
              rw [show p = Bpt B (Nk N (Wo' W j)) by omega]
              exact Int32.lt_irrefl)]
            rfl
          | succ m =>
            have hL : NLiv B N (5 * Wo' W j + p) := liv_port i1.1 i1.2.1 i1.2.2.1 p0 (by omega) (by omega)
            have hL' : NLiv B N' (5 * Wo' W' j + p) := liv_port i2.1 i2.2.1 i2.2.2.1 p0 (by rw [← hk]; omega) (by omega)
            have w1 := c_wireOf hV hC hL
            have w2 := c_wireOf hV' hC' hL'
            rw [to8_p (by omega), show 8 * ((5 * Wo' W j + p) / 5) + (5 * Wo' W j + p) % 5 = 8 * Wo' W j + p by omega] at w1
            rw [to8_p (by omega), show 8 * ((5 * Wo' W' j + p) / 5) + (5 * Wo' W' j + p) % 5 = 8 * Wo' W' j + p by omega] at w2
            have l1 := liv_r hV (hV.2.2.2 _ hL).1
            have l2 := liv_r hV' (hV'.2.2.2 _ hL').1
            have r1 := hD j j0 j1 p p0 (by omega)
            have r2 := hD' j j0 (by omega) p p0 (by rw [← hk]; omega)
            have n1 := c_numb hI hW l1.1 l1.2 r1
            have n2 := c_numb hI' hW' l2.1 l2.2 r2
            have q1 := nb_r hI l1.1 l1.2 r1
            have q2 := nb_r hI' l2.1 l2.2 r2
            unfold f_X11_portCode
            simp (maxSteps := 4000000) (disch := omega) only [I_lits, nz, nc, if_pos, if_neg, if_true, if_false, Option.bind_some, true_and, and_true, and_self, or_true, true_or, or_false, false_or, not_true_eq_false, not_false_eq_true, false_and, and_false, Bool.false_eq_true, decide_true, decide_false, eq_self, w1, w2, n1, n2, to8_eq q1 q2]
            rw [allB]
            have := ih m (p + 1) (by omega) (by omega) (by omega)
            by_cases h : nb W (Nw N (5 * Wo' W j + p)) = nb W' (Nw N' (5 * Wo' W' j + p))
            · rw [if_pos h, this]
              simp [h]
            · rw [if_neg h]
              simp [h]
      rw [inner F (Bpt B (Nk N (Wo' W j))).toNat 0 (by omega) (by omega) (by omega)]
      simp [hk]
    · rw [if_neg hk]
      simp [hk]
  · intro n
    rw [f_X10_hasSameAgents_L3, hW.1, if_neg (fun q => Int32.lt_irrefl q.1)]
    rfl
theorem c_isLike {W W' : WkT} (hK : KdV B) (hV : NetV B N) (hV' : NetV B N') (hBC : BkC B σ 64) (hC : NtC B N σ 77) (hC' : NtC B N' σ b) (hI : WkI N W) (hI' : WkI N' W') (hW : WkC W σ 56) (hW' : WkC W' σ 59) (hD : Don B N W (Ws W)) (hD' : Don B N' W' (Ws W')) (hE : ∀ e, 0 ≤ e → e < Ne N → Rkd W (Nw N (-2 - e))) (hE' : ∀ e, 0 ≤ e → e < Ne N' → Rkd W' (Nw N' (-2 - e))) (hF : 10000 ≤ F) : f_X10_isLike F b σ = some (I (if (decide (Ne N = Ne N' ∧ Nr N = Nr N' ∧ Ws W = Ws W') && allB (lkK N N') 16 0 && allB (lkE W W' N N') (Ne N).toNat 0 && allB (lkA W W' B N N') (Ws W).toNat 0) then 1 else 0)) := by
  unfold f_X10_isLike
  have he8 := hV.2.1
  have he0 := hV.1
  have he8' := hV'.2.1
  have he0' := hV'.1
  have hs0 := hI.1
  have hs1 := hI.2.1
  have hs0' := hI'.1
  have hs1' := hI'.2.1
  rw [hW.1, hW'.1, hC.2.2.2.2.1, hC'.2.2.2.2.1, hC.2.2.2.2.2.1, hC'.2.2.2.2.2.1]
  have w1 : I (Ws W) = I (Ws W') ↔ Ws W = Ws W' := I_eq (by omega) (by omega) (by omega) (by omega)
  have w2 : I (Ne N) = I (Ne N') ↔ Ne N = Ne N' := I_eq (by omega) (by omega) (by omega) (by omega)
  simp only [w1, w2]
  by_cases h : Ws W = Ws W' ∧ Ne N = Ne N' ∧ Nr N = Nr N'
  · rw [if_pos h, c_sameCounts (b16 hK hV) (b16 hK hV') hC hC' hF, c_sameEnds hV hV' hC hC' hI hI' hW hW' hE hE' h.2.1 hF, c_sameAgents hK hV hV' hBC hC hC' hI hI' hW hW' hD hD' h.1 hF]
    rw [show decide (Ne N = Ne N' ∧ Nr N = Nr N' ∧ Ws W = Ws W') = true from decide_eq_true ⟨h.2.1, h.2.2, h.1⟩]
    simp only [Option.bind_some, Bool.true_and]
    cases allB (lkK N N') 16 0 <;> cases allB (lkE W W' N N') (Ne N).toNat 0 <;> cases allB (lkA W W' B N N') (Ws W).toNat 0 <;> rfl
  · rw [if_neg h, show decide (Ne N = Ne N' ∧ Nr N = Nr N' ∧ Ws W = Ws W') = false from decide_eq_false (fun q => h ⟨q.2.2, q.1, q.2.1⟩)]
    rfl
theorem m_likeK (hK : KdV B) (hV : NetV B N) (hV' : NetV B N') (hB : BkM B τ) (hA : Acc B N τ 0 s) (hA' : Acc B N' τ 1 s) (hF : 10000 ≤ F) (g : Bool) : f_X12_like_L85 F (I s) τ F (I (if g then 1 else 0)) (I 0) = some (I (if g && allB (lkK N N') (Bkn B).toNat 0 then 1 else 0)) := by
  have h0 := hK.1
  have h16 := hK.2.1
  refine all_loopM (L := f_X12_like_L85 F (I s) τ) (p := lkK N N') (c := Bkn B) (v := 0) ?_ ?_ ?_ F (Bkn B).toNat 0 g (by omega) (by omega) (by omega)
  · intro n j j0 j1
    have e1 := m_manyOf (F := F) (b16 hK hV) hF hA.1 (k := j) j0 (by omega)
    have e2 := m_manyOf (F := F) (b16 hK hV') hF hA'.1 (k := j) j0 (by omega)
    have b1 := cnt_b (fun n => decide (Nk N n = j)) 400
    have b2 := cnt_b (fun n => decide (Nk N' n = j)) 400
    rw [f_X12_like_L85, hB.1.1]
    simp (maxSteps := 4000000) (disch := omega) only [I_lits, nz, nc, if_pos, if_neg, if_true, if_false, Option.bind_some, true_and, and_true, and_self, or_true, true_or, or_false, false_or, not_true_eq_false, not_false_eq_true, false_and, and_false, Bool.false_eq_true, decide_true, decide_false, eq_self, e1, e2]
    unfold lkK
    by_cases h : cnt (fun n => decide (Nk N n = j)) 400 = cnt (fun n => decide (Nk N' n = j)) 400
    · simp (maxSteps := 4000000) (disch := omega) only [I_lits, nz, nc, if_pos, if_neg, if_true, if_false, Option.bind_some, true_and, and_true, and_self, or_true, true_or, or_false, false_or, not_true_eq_false, not_false_eq_true, false_and, and_false, Bool.false_eq_true, decide_true, decide_false, eq_self, h]
    · simp (maxSteps := 4000000) (disch := omega) only [I_lits, nz, nc, if_pos, if_neg, if_true, if_false, Option.bind_some, true_and, and_true, and_self, or_true, true_or, or_false, false_or, not_true_eq_false, not_false_eq_true, false_and, and_false, Bool.false_eq_true, decide_true, decide_false, eq_self, h]
  · intro n j j0 j1
    rw [f_X12_like_L85, if_neg (fun q => q.2 rfl)]
  · intro n
    rw [f_X12_like_L85, hB.1.1, if_neg (fun q => Int32.lt_irrefl q.1)]
theorem m_likeE {W W' : WkT} (hV : NetV B N) (hV' : NetV B N') (hNM : NtM B N τ) (hA' : Acc B N' τ 1 s) (hI : WkI N W) (hI' : WkI N' W') (hW : WkM W τ 0) (hW' : WkM W' τ 1) (hE : ∀ e, 0 ≤ e → e < Ne N → Rkd W (Nw N (-2 - e))) (hE' : ∀ e, 0 ≤ e → e < Ne N' → Rkd W' (Nw N' (-2 - e))) (hF : 10000 ≤ F) (g : Bool) (hg : g = true → Ne N = Ne N') : f_X12_like_L128 F (I s) τ F (I (if g then 1 else 0)) (I 0) = some (I (if g && allB (lkE W W' N N') (Ne N).toNat 0 then 1 else 0)) := by
  have he8 := hV.2.1
  have he0 := hV.1
  cases g with
  | false =>
    obtain ⟨F', rfl⟩ : ∃ F', F = F' + 1 := ⟨F - 1, by omega⟩
    show f_X12_like_L128 (F' + 1) (I s) τ (F' + 1) (I 0) (I 0) = some (I 0)
    rw [f_X12_like_L128, if_neg (fun q => q.2 rfl)]
  | true =>
    have hee := hg rfl
    refine all_loopM (L := f_X12_like_L128 F (I s) τ) (p := lkE W W' N N') (c := Ne N) (v := 0) ?_ ?_ ?_ F (Ne N).toNat 0 true (by omega) (by omega) (by omega)
    · intro n j j0 j1
      have hL : NLiv B N (-2 - j) := Or.inl ⟨by omega, by omega⟩
      have hL' : NLiv B N' (-2 - j) := Or.inl ⟨by omega, by omega⟩
      have w1 := hNM.2.2.1 _ hL (by omega)
      have w2 := hA'.2.2 _ hL' (by omega)
      rw [show -2 - (-2 - j) = j by omega] at w1 w2
      have l1 := liv_r hV (hV.2.2.2 _ hL).1
      have l2 := liv_r hV' (hV'.2.2.2 _ hL').1
      have r1 := hE j j0 j1
      have r2 := hE' j j0 (by omega)
      have n1 := m_numb hI (Or.inl rfl) hW l1.1 l1.2 r1
      have n2 := m_numb hI' (Or.inr rfl) hW' l2.1 l2.2 r2
      have q1 := nb_r hI l1.1 l1.2 r1
      have q2 := nb_r hI' l2.1 l2.2 r2
      rw [f_X12_like_L128, hNM.2.2.2.1]
      simp (maxSteps := 4000000) (disch := omega) only [I_lits, nz, nc, if_pos, if_neg, if_true, if_false, Option.bind_some, true_and, and_true, and_self, or_true, true_or, or_false, false_or, not_true_eq_false, not_false_eq_true, false_and, and_false, Bool.false_eq_true, decide_true, decide_false, eq_self, w1, w2, n1, n2]
      unfold lkE
      by_cases h : nb W (Nw N (-2 - j)) = nb W' (Nw N' (-2 - j))
      · simp (maxSteps := 4000000) (disch := omega) only [I_lits, nz, nc, if_pos, if_neg, if_true, if_false, Option.bind_some, true_and, and_true, and_self, or_true, true_or, or_false, false_or, not_true_eq_false, not_false_eq_true, false_and, and_false, Bool.false_eq_true, decide_true, decide_false, eq_self, h]
      · simp (maxSteps := 4000000) (disch := omega) only [I_lits, nz, nc, if_pos, if_neg, if_true, if_false, Option.bind_some, true_and, and_true, and_self, or_true, true_or, or_false, false_or, not_true_eq_false, not_false_eq_true, false_and, and_false, Bool.false_eq_true, decide_true, decide_false, eq_self, h]
    · intro n j j0 j1
      rw [f_X12_like_L128, if_neg (fun q => q.2 rfl)]
    · intro n
      rw [f_X12_like_L128, hNM.2.2.2.1, if_neg (fun q => Int32.lt_irrefl q.1)]
theorem m_likeA {W W' : WkT} (hK : KdV B) (hV : NetV B N) (hV' : NetV B N') (hB : BkM B τ) (hNM : NtM B N τ) (hA' : Acc B N' τ 1 s) (hI : WkI N W) (hI' : WkI N' W') (hW : WkM W τ 0) (hW' : WkM W' τ 1) (hD : Don B N W (Ws W)) (hD' : Don B N' W' (Ws W')) (hF : 10000 ≤ F) (g : Bool) (hg : g = true → Ws W = Ws W') : f_X12_like_L180 F (I s) τ F (I (if g then 1 else 0)) (I 0) = some (I (if g && allB (lkA W W' B N N') (Ws W).toNat 0 then 1 else 0)) := by
  have hs0 := hI.1
  have hs1 := hI.2.1
  have h16 := hK.2.1
  cases g with
  | false =>
    obtain ⟨F', rfl⟩ : ∃ F', F = F' + 1 := ⟨F - 1, by omega⟩
    show f_X12_like_L180 (F' + 1) (I s) τ (F' + 1) (I 0) (I 0) = some (I 0)
    rw [f_X12_like_L180, if_neg (fun q => q.2 rfl)]
  | true =>
    have hss := hg rfl
    have e51 : τ.1 51 (ix (0 : Int32)) = I (Ws W) := hW.1
    refine all_loopM (L := f_X12_like_L180 F (I s) τ) (p := lkA W W' B N N') (c := Ws W) (v := 0) ?_ ?_ ?_ F (Ws W).toNat 0 true (by omega) (by omega) (by omega)
    · intro n j j0 j1
      have i1 := hI.2.2.1 j j0 j1
      have i2 := hI'.2.2.1 j j0 (by omega)
      have e1 := hW.2.1 j j0 j1
      have e2 := hW'.2.1 j j0 (by omega)
      rw [show 400 * 0 + j = j by omega] at e1
      rw [show 400 * 1 + j = 400 + j by omega] at e2
      have k1 := hV.2.2.1 _ i1.1 i1.2.1
      have k2 := hV'.2.2.1 _ i2.1 i2.2.1
      have pb := hK.2.2.1 _ i1.2.2.1 k1.2
      have a1 := hNM.1 _ i1.1 i1.2.1
      have a2 := hA'.1 _ i2.1 i2.2.1
      have p1 := hB.1.2.2.1 _ i1.2.2.1 k1.2
      rw [f_X12_like_L180, e51]
      simp (maxSteps := 4000000) (disch := omega) only [I_lits, nz, nc, if_pos, if_neg, if_true, if_false, Option.bind_some, true_and, and_true, and_self, or_true, true_or, or_false, false_or, not_true_eq_false, not_false_eq_true, false_and, and_false, Bool.false_eq_true, decide_true, decide_false, eq_self, e1, e2, a1, a2]
      unfold lkA
      have inner : ∀ g : Bool, (g = true → Nk N (Wo' W j) = Nk N' (Wo' W' j)) → f_X12_like_L241 F (I s) (I j) (I (Wo' W j)) (I (Wo' W' j)) τ F (I (if g then 1 else 0)) (I 0) = some (I (if g && allB (fun p => decide (nb W (Nw N (5 * Wo' W j + p)) = nb W' (Nw N' (5 * Wo' W' j + p)))) (Bpt B (Nk N (Wo' W j))).toNat 0 then 1 else 0)) := by
        intro g hk
        cases g with
        | false =>
          obtain ⟨F', rfl⟩ : ∃ F', F = F' + 1 := ⟨F - 1, by omega⟩
          show f_X12_like_L241 (F' + 1) (I s) (I j) (I (Wo' W j)) (I (Wo' W' j)) τ (F' + 1) (I 0) (I 0) = some (I 0)
          rw [f_X12_like_L241, if_pos (by rfl)]
        | true =>
          have hk := hk rfl
          refine all_loopM (L := f_X12_like_L241 F (I s) (I j) (I (Wo' W j)) (I (Wo' W' j)) τ) (c := Bpt B (Nk N (Wo' W j))) (v := 0) ?_ ?_ ?_ F (Bpt B (Nk N (Wo' W j))).toNat 0 true (by omega) (by omega) (by omega)
          · intro n p p0 p1'
            have hL : NLiv B N (5 * Wo' W j + p) := liv_port i1.1 i1.2.1 i1.2.2.1 p0 (by omega) (by omega)
            have hL' : NLiv B N' (5 * Wo' W' j + p) := liv_port i2.1 i2.2.1 i2.2.2.1 p0 (by rw [← hk]; omega) (by omega)
            have w1 := hNM.2.1 _ hL (by omega)
            have w2 := hA'.2.1 _ hL' (by omega)
            have l1 := liv_r hV (hV.2.2.2 _ hL).1
            have l2 := liv_r hV' (hV'.2.2.2 _ hL').1
            have r1 := hD j j0 j1 p p0 (by omega)
            have r2 := hD' j j0 (by omega) p p0 (by rw [← hk]; omega)
            have n1 := m_numb hI (Or.inl rfl) hW l1.1 l1.2 r1
            have n2 := m_numb hI' (Or.inr rfl) hW' l2.1 l2.2 r2
            have q1 := nb_r hI l1.1 l1.2 r1
            have q2 := nb_r hI' l2.1 l2.2 r2
            rw [f_X12_like_L241]
            simp (maxSteps := 4000000) (disch := omega) only [I_lits, nz, nc, if_pos, if_neg, if_true, if_false, Option.bind_some, true_and, and_true, and_self, or_true, true_or, or_false, false_or, not_true_eq_false, not_false_eq_true, false_and, and_false, Bool.false_eq_true, decide_true, decide_false, eq_self, a1, p1, w1, w2, n1, n2]
            by_cases h : nb W (Nw N (5 * Wo' W j + p)) = nb W' (Nw N' (5 * Wo' W' j + p))
            · simp (maxSteps := 4000000) (disch := omega) only [I_lits, nz, nc, if_pos, if_neg, if_true, if_false, Option.bind_some, true_and, and_true, and_self, or_true, true_or, or_false, false_or, not_true_eq_false, not_false_eq_true, false_and, and_false, Bool.false_eq_true, decide_true, decide_false, eq_self, h]
            · simp (maxSteps := 4000000) (disch := omega) only [I_lits, nz, nc, if_pos, if_neg, if_true, if_false, Option.bind_some, true_and, and_true, and_self, or_true, true_or, or_false, false_or, not_true_eq_false, not_false_eq_true, false_and, and_false, Bool.false_eq_true, decide_true, decide_false, eq_self, h]
          · intro n p p0 p1'
            rw [f_X12_like_L241, if_pos (by rfl)]
          · intro n
            rw [f_X12_like_L241]
            simp (maxSteps := 4000000) (disch := omega) only [I_lits, nz, nc, if_pos, if_neg, if_true, if_false, Option.bind_some, true_and, and_true, and_self, or_true, true_or, or_false, false_or, not_true_eq_false, not_false_eq_true, false_and, and_false, Bool.false_eq_true, decide_true, decide_false, eq_self, a1, p1]
      by_cases hk : Nk N (Wo' W j) = Nk N' (Wo' W' j)
      · have := inner true (fun _ => hk)
        simp only [if_true] at this
        simp (maxSteps := 4000000) (disch := omega) only [I_lits, nz, nc, if_pos, if_neg, if_true, if_false, Option.bind_some, true_and, and_true, and_self, or_true, true_or, or_false, false_or, not_true_eq_false, not_false_eq_true, false_and, and_false, Bool.false_eq_true, decide_true, decide_false, eq_self, hk]
        rw [← hk, this, Option.bind_some]
        try simp
      · have := inner false (fun q => by cases q)
        simp only [Bool.false_eq_true, if_false] at this
        simp (maxSteps := 4000000) (disch := omega) only [I_lits, nz, nc, if_pos, if_neg, if_true, if_false, Option.bind_some, true_and, and_true, and_self, or_true, true_or, or_false, false_or, not_true_eq_false, not_false_eq_true, false_and, and_false, Bool.false_eq_true, decide_true, decide_false, eq_self, hk]
        rw [this, Option.bind_some]
        try simp
    · intro n j j0 j1
      rw [f_X12_like_L180, if_neg (fun q => q.2 rfl)]
    · intro n
      rw [f_X12_like_L180, e51, if_neg (fun q => Int32.lt_irrefl q.1)]
theorem lkK_16 (hK : KdV B) (hV : NetV B N) (hV' : NetV B N') : allB (lkK N N') 16 0 = allB (lkK N N') (Bkn B).toNat 0 := by
  have h0 := hK.1
  have h16 := hK.2.1
  have z : ∀ (M : NtT), NetV B M → ∀ k, Bkn B ≤ k → cnt (fun n => decide (Nk M n = k)) 400 = 0 := by
    intro M hM k hk
    have : cnt (fun n => decide (Nk M n = k)) 400 = cnt (fun _ => false) 400 := by
      apply cnt_c
      intro i i0 i1
      have := hM.2.2.1 i i0 (by omega)
      exact decide_eq_false (by omega)
    rw [this]
    have : ∀ n : Nat, cnt (fun _ => false) n = 0 := by
      intro n
      induction n with
      | zero => rfl
      | succ n ih => rw [cnt, ih]; rfl
    exact this 400
  have : (16 : Nat) = (Bkn B).toNat + (16 - (Bkn B).toNat) := by omega
  rw [this, allB_add, allB_true (16 - (Bkn B).toNat) _ (fun i a b => by
    unfold lkK
    rw [z N hV i (by omega), z N' hV' i (by omega)]
    rfl), Bool.and_true]
theorem op_like (h : Sim σ τ q) (hF : 10000 ≤ F) (p : Int32) : Op (f_X11_like F p σ) (f_X12_like F p τ) q := by
  have hS := h
  obtain ⟨B, N, ⟨hK, hR, hV, hBC, hBM, hNC, hNM⟩, h2, h3, h4, h5, h6⟩ := h
  obtain ⟨z, rfl, z1, z2⟩ := I_ex p
  unfold f_X11_like f_X12_like
  rw [c_shelfAt z1 z2, m_isShelf z1 z2]
  by_cases hz : 0 ≤ z ∧ z < 4
  · rw [if_pos hz, if_pos hz]
    obtain ⟨z0, z4⟩ := hz
    have hin : inb (I z) 4 = true := (I_inb z1 z2).mpr ⟨z0, z4⟩
    simp only [Option.bind_some, i01, if_false, hin, if_true, I_ix z1 z2]
    rcases h5 z z0 z4 with ⟨k1, k2⟩ | ⟨k1, N', hV', hNC', hNM', hm⟩
    · rw [k1, k2]
      simp (maxSteps := 4000000) (disch := omega) only [I_lits, nz, nc, if_pos, if_neg, if_true, if_false, Option.bind_some, true_and, and_true, and_self, or_true, true_or, or_false, false_or, not_true_eq_false, not_false_eq_true, false_and, and_false, Bool.false_eq_true, decide_true, decide_false, eq_self]
      exact ⟨_, _, _, rfl, rfl, hS⟩
    · have ke := hNM'.2.2.2.1
      have ke0 := hV'.1
      have ke8 := hV'.2.1
      rw [k1, ke]
      simp (maxSteps := 4000000) (disch := omega) only [I_lits, nz, nc, if_pos, if_neg, if_true, if_false, Option.bind_some, true_and, and_true, and_self, or_true, true_or, or_false, false_or, not_true_eq_false, not_false_eq_true, false_and, and_false, Bool.false_eq_true, decide_true, decide_false, eq_self]
      obtain ⟨W, σ1, τ1, a1, a2, a3, a4, a5⟩ := s_reach (F := F) (a := 56) (b := 77) (c := 0) (s := z) hK hV hNC hBC hBM (acc0 hK hV hNM z) hF (by omega) (by omega) (Or.inl rfl) ⟨z0, z4⟩ (fun _ => hNM.2.2.2.1) (fun e => by omega)
      obtain ⟨aI, aC, aM, aFC, aFM⟩ := a3
      have hNC1 : NtC B N' σ1 (39 + 4 * z.toNat) := ntc_fr hNC' (fun k _ _ => aFC.2 k (by omega))
      have hBC1 : BkC B σ1 64 := bkc_fr hBC (fun k _ _ => aFC.2 k (by omega)) (by rw [aFC.1])
      have hBM1 : BkM B τ1 := bkm_fr hBM (fun k _ _ => aFM.2.1 k (by omega)) (fun j _ => by rw [aFM.2.1 0 (by omega)]) (by rw [aFM.1])
      have hA1 : Acc B N' τ1 1 z := acc_fr (acc1 hK hV' z0 z4 hNM') (fun k hk => aFM.2.1 k (by omega))
      obtain ⟨W', σ2, τ2, b1, b2, b3, b4, b5⟩ := s_reach (F := F) (a := 59) (b := 39 + 4 * z.toNat) (c := 1) (s := z) hK hV' hNC1 hBC1 hBM1 hA1 hF (by omega) (by omega) (Or.inr rfl) ⟨z0, z4⟩ (fun e => by omega) (fun _ => by rw [aFM.2.1 47 (by omega)]; exact ke)
      obtain ⟨bI, bC, bM, bFC, bFM⟩ := b3
      have hNC2 : NtC B N' σ2 (39 + 4 * z.toNat) := ntc_fr hNC1 (fun k _ _ => bFC.2 k (by omega))
      have hN2 : NtC B N σ2 77 := ntc_fr hNC (fun k _ _ => by rw [bFC.2 k (by omega), aFC.2 k (by omega)])
      have hBC2 : BkC B σ2 64 := bkc_fr hBC1 (fun k _ _ => bFC.2 k (by omega)) (by rw [bFC.1])
      have hBM2 : BkM B τ2 := bkm_fr hBM1 (fun k _ _ => bFM.2.1 k (by omega)) (fun j _ => by rw [bFM.2.1 0 (by omega)]) (by rw [bFM.1])
      have hA2 : Acc B N' τ2 1 z := acc_fr hA1 (fun k hk => bFM.2.1 k (by omega))
      have hM2 : NtM B N τ2 := ntm_fr hNM (fun k _ _ => by rw [bFM.2.1 k (by omega), aFM.2.1 k (by omega)]) (fun j _ => by rw [bFM.2.1 0 (by omega), aFM.2.1 0 (by omega)])
      have hA0 : Acc B N τ2 0 z := acc0 hK hV hM2 z
      have hWC2 : WkC W σ2 56 := by
        refine ⟨by rw [bFC.2 56 (by omega)]; exact aC.1, fun i i0 i1 => ?_, fun n n0 n1 => ?_⟩
        · rw [bFC.2 57 (by omega)]; exact aC.2.1 i i0 i1
        · rw [bFC.2 58 (by omega)]; exact aC.2.2 n n0 n1
      have hs1 := aI.2.1
      have hWM2 : WkM W τ2 0 := by
        refine ⟨?_, fun i i0 i1 => ?_, fun n n0 n1 => ?_⟩
        · rw [bFM.2.2.2 _ (by omega)]; exact aM.1
        · rw [(bFM.2.2.1 _ (by omega)).1]; exact aM.2.1 i i0 i1
        · rw [(bFM.2.2.1 _ (by omega)).2]; exact aM.2.2 n n0 n1
      simp only [a1, a2, b1, b2, Option.bind_some, c_isLike hK hV hV' hBC2 hN2 hNC2 aI bI hWC2 bC a4 b4 a5 b5 hF]
      have e18 : τ2.1 0 18 = I (Ne N) := hM2.2.2.2.1
      have e19 : τ2.1 0 19 = Nr N := hM2.2.2.2.2
      have e47 : τ2.1 47 z.toNat = I (Ne N') := by rw [bFM.2.1 47 (by omega), aFM.2.1 47 (by omega)]; exact ke
      have e48 : τ2.1 48 z.toNat = Nr N' := by rw [bFM.2.1 48 (by omega), aFM.2.1 48 (by omega)]; exact hNM'.2.2.2.2
      have e510 : τ2.1 51 (Int.toNat 0) = I (Ws W) := hWM2.1
      have e511 : τ2.1 51 (Int.toNat 1) = I (Ws W') := bM.1
      have he8 := hV.2.1
      have he0 := hV.1
      have hs0 := aI.1
      have hs0' := bI.1
      have hs1' := bI.2.1
      have hflag : ((if τ2.1 0 18 = τ2.1 47 z.toNat then (if τ2.1 0 19 = τ2.1 48 z.toNat ∧ τ2.1 51 (Int.toNat 0) = τ2.1 51 (Int.toNat 1) then some (I 1) else some (I 0)) else some (I 0) : Option Int32)) = some (I (if decide (Ne N = Ne N' ∧ Nr N = Nr N' ∧ Ws W = Ws W') then 1 else 0)) := by
        have w1 : I (Ne N) = I (Ne N') ↔ Ne N = Ne N' := I_eq (by omega) (by omega) (by omega) (by omega)
        have w2 : I (Ws W) = I (Ws W') ↔ Ws W = Ws W' := I_eq (by omega) (by omega) (by omega) (by omega)
        rw [e18, e47, e19, e48, e510, e511]
        simp only [w1, w2]
        by_cases x1 : Ne N = Ne N'
        · by_cases x2 : Nr N = Nr N' ∧ Ws W = Ws W'
          · rw [if_pos x1, if_pos x2, decide_eq_true ⟨x1, x2.1, x2.2⟩]; rfl
          · rw [if_pos x1, if_neg x2, decide_eq_false (fun q => x2 q.2)]; rfl
        · rw [if_neg x1, decide_eq_false (fun q => x1 q.1)]; rfl
      rw [hflag, Option.bind_some, m_likeK hK hV hV' hBM2 hA0 hA2 hF, Option.bind_some, m_likeE hV hV' hM2 hA2 aI bI hWM2 bM a5 b5 hF _ (fun w => by
        simp only [Bool.and_eq_true, decide_eq_true_eq] at w
        exact w.1.1), Option.bind_some, m_likeA hK hV hV' hBM2 hM2 hA2 aI bI hWM2 bM a4 b4 hF _ (fun w => by
        simp only [Bool.and_eq_true, decide_eq_true_eq] at w
        exact w.1.1.2.2), lkK_16 hK hV hV', Option.bind_some]
      have fin : Sim σ2 τ2 q := sim_fr hS ⟨fun k hk => by rw [bFC.2 k (by omega), aFC.2 k (by omega)], by rw [bFC.2 1 (by omega), aFC.2 1 (by omega)], by rw [bFC.2 9 (by omega), aFC.2 9 (by omega)], by rw [bFC.1, aFC.1], by rw [bFC.1, aFC.1]⟩ ⟨fun k hk => by rw [bFM.2.1 k (by omega), aFM.2.1 k (by omega)], fun j hj => by rw [bFM.2.1 0 (by omega), aFM.2.1 0 (by omega)], by rw [bFM.1, aFM.1], by rw [bFM.1, aFM.1]⟩
      cases (decide (Ne N = Ne N' ∧ Nr N = Nr N' ∧ Ws W = Ws W') && allB (lkK N N') (Bkn B).toNat 0 && allB (lkE W W' N N') (Ne N).toNat 0 && allB (lkA W W' B N N') (Ws W).toNat 0) with
      | false => exact ⟨_, _, _, rfl, rfl, fin⟩
      | true => exact ⟨_, _, _, rfl, rfl, fin⟩
  · simp (maxSteps := 4000000) (disch := omega) only [I_lits, nz, nc, if_pos, if_neg, if_true, if_false, Option.bind_some, true_and, and_true, and_self, or_true, true_or, or_false, false_or, not_true_eq_false, not_false_eq_true, false_and, and_false, Bool.false_eq_true, decide_true, decide_false, eq_self, hz]
    exact ⟨_, _, _, rfl, rfl, hS⟩
end LK2
