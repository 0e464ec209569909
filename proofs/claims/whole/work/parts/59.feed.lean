section FED
variable {σ τ : St} {q : Int} {F : Nat}
theorem c_append_L (c : Int32) (L : Int) (h0 : 0 ≤ L) (h1 : L ≤ 3996) : ∀ (n j : Nat) (g : St), j ≤ 4 → 4 - j < n → g.1 9 6 = I (L + j) → ∃ g', f_X9_append_L3 F c n (I (24 - 8 * j)) g = some g' ∧ g'.2 = g.2 ∧ (∀ k, k ≠ 9 → k ≠ 10 → g'.1 k = g.1 k) ∧ (∀ i, g'.1 9 i = if i = 6 then I (L + 4) else g.1 9 i) ∧ (∀ i : Int, 0 ≤ i → g'.1 10 i.toNat = if L + j ≤ i ∧ i < L + 4 then bytc c (i - L).toNat else g.1 10 i.toNat) := by
  intro n
  induction n with
  | zero => intro j g h2 h3; omega
  | succ n ih =>
    intro j g h2 h3 h4
    rw [f_X9_append_L3, h4]
    by_cases h : j = 4
    · subst h
      simp (maxSteps := 4000000) (disch := omega) only [I_lits, nz, nc, if_pos, if_neg, if_true, if_false, Option.bind_some, true_and, and_true, and_self, or_true, true_or, or_false, false_or, not_true_eq_false, not_false_eq_true, false_and, and_false, Bool.false_eq_true, decide_true, decide_false, eq_self]
      refine ⟨g, rfl, rfl, fun _ _ _ => rfl, fun i => ?_, fun i hi => rfl⟩
      by_cases hi : i = 6
      · rw [if_pos hi, hi, h4]
        rfl
      · rw [if_neg hi]
    · simp (maxSteps := 4000000) (disch := omega) only [I_lits, nz, nc, if_pos, if_neg, if_true, if_false, Option.bind_some, true_and, and_true, and_self, or_true, true_or, or_false, false_or, not_true_eq_false, not_false_eq_true, false_and, and_false, Bool.false_eq_true, decide_true, decide_false, eq_self, seti1]
      have hs : ((seti g 10 (L + (j : Int)).toNat (((c.toUInt32 >>> ((I (24 - 8 * (j : Int))).toUInt32 &&& Int32.toUInt32 31)).toInt32.toInt8.toInt32).toInt8.toInt32))).1 9 6 = I (L + j) := by
        rw [seti_r (by omega)]; exact h4
      rw [show (24 - 8 * (j : Int) + -8) = 24 - 8 * ((j + 1 : Nat) : Int) by omega]
      obtain ⟨g', e1, e2, e3, e4, e5⟩ := ih (j + 1) (seti (seti g 10 (L + (j : Int)).toNat (((c.toUInt32 >>> ((I (24 - 8 * (j : Int))).toUInt32 &&& (I 31).toUInt32)).toInt32.toInt8.toInt32).toInt8.toInt32)) 9 6 (I (L + j + 1))) (by omega) (by omega) (by
        rw [seti1, if_pos ⟨rfl, rfl⟩]
        congr 1
        omega)
      refine ⟨g', ?_, ?_, ?_, ?_, ?_⟩
      · rw [← e1]
        simp only [h4, I_add]
        rfl
      · rw [e2]; rfl
      · intro k a b
        rw [e3 k a b, seti_r a, seti_r b]
      · intro i
        rw [e4 i, seti1, seti_r (by omega)]
        by_cases hi : i = 6
        · rw [if_pos hi, if_pos hi]
        · rw [if_neg hi, if_neg hi, if_neg (by omega)]
      · intro i hi
        rw [e5 i hi, seti_r (by omega), seti1]
        by_cases hc : L + ((j + 1 : Nat) : Int) ≤ i ∧ i < L + 4
        · rw [if_pos hc, if_pos (by omega)]
        · rw [if_neg hc]
          by_cases hd : i = L + j
          · rw [if_pos (by omega), if_pos (by omega)]
            unfold bytc
            rw [show ((i - L).toNat % 4 : Nat) = j by omega]
            rfl
          · rw [if_neg (by omega), if_neg (by omega)]
theorem c_append (c : Int32) (L : Int) (h0 : 0 ≤ L) (h1 : L ≤ 3996) (hF : 10000 ≤ F) (g : St) (h : g.1 9 6 = I L) : ∃ g', f_X9_append F c g = some g' ∧ g'.2 = g.2 ∧ (∀ k, k ≠ 9 → k ≠ 10 → g'.1 k = g.1 k) ∧ (∀ i, g'.1 9 i = if i = 6 then I (L + 4) else g.1 9 i) ∧ (∀ i : Int, 0 ≤ i → g'.1 10 i.toNat = if L ≤ i ∧ i < L + 4 then bytc c (i - L).toNat else g.1 10 i.toNat) := by
  unfold f_X9_append
  obtain ⟨g', e1, e2, e3, e4, e5⟩ := c_append_L (F := F) c L h0 h1 F 0 g (by omega) (by omega) (by rw [h]; congr 1; omega)
  refine ⟨g', ?_, e2, e3, e4, ?_⟩
  · rw [show f_X9_append_L3 F c F (24 : Int32) g = some g' from e1]
    rfl
  · intro i hi
    rw [e5 i hi, show L + ((0 : Nat) : Int) = L by omega]
def pick (a b c d e : Int32) (k : Nat) : Int32 := if k < 4 then a else if k < 8 then b else if k < 12 then c else if k < 16 then d else e
theorem m_feed_L (a b c d e : Int32) (L : Int) (h0 : 0 ≤ L) (h1 : L ≤ 3980) : ∀ (n j : Nat) (g : St), j ≤ 20 → 20 - j < n → g.1 0 1 = I (L + j) → ∃ g', f_X12_feed_L20 F a b c d e n (I j) g = some g' ∧ g'.2 = g.2 ∧ (∀ k, k ≠ 0 → k ≠ 1 → g'.1 k = g.1 k) ∧ (∀ i, g'.1 0 i = if i = 1 then I (L + 20) else g.1 0 i) ∧ (∀ i : Int, 0 ≤ i → g'.1 1 i.toNat = if L + j ≤ i ∧ i < L + 20 then byt (pick a b c d e (i - L).toNat) (i - L).toNat else g.1 1 i.toNat) := by
  intro n
  induction n with
  | zero => intro j g h2 h3; omega
  | succ n ih =>
    intro j g h2 h3 h4
    rw [f_X12_feed_L20, h4]
    by_cases h : j = 20
    · subst h
      simp (maxSteps := 4000000) (disch := omega) only [I_lits, nz, nc, if_pos, if_neg, if_true, if_false, Option.bind_some, true_and, and_true, and_self, or_true, true_or, or_false, false_or, not_true_eq_false, not_false_eq_true, false_and, and_false, Bool.false_eq_true, decide_true, decide_false, eq_self]
      refine ⟨g, rfl, rfl, fun _ _ _ => rfl, fun i => ?_, fun i hi => rfl⟩
      by_cases hi : i = 1
      · rw [if_pos hi, hi, h4]
        rfl
      · rw [if_neg hi]
    · have hp : (if I (j : Int) < (4 : Int32) then some a else if I (j : Int) < (8 : Int32) then some b else if I (j : Int) < (12 : Int32) then some c else if I (j : Int) < (16 : Int32) then some d else some e) = some (pick a b c d e j) := by
        unfold pick
        simp (maxSteps := 4000000) (disch := omega) only [I_lits, nz, nc]
        by_cases a4 : j < 4
        · rw [if_pos (by omega), if_pos a4]
        · rw [if_neg (by omega), if_neg a4]
          by_cases a8 : j < 8
          · rw [if_pos (by omega), if_pos a8]
          · rw [if_neg (by omega), if_neg a8]
            by_cases a12 : j < 12
            · rw [if_pos (by omega), if_pos a12]
            · rw [if_neg (by omega), if_neg a12]
              by_cases a16 : j < 16
              · rw [if_pos (by omega), if_pos a16]
              · rw [if_neg (by omega), if_neg a16]
      rw [hp]
      simp (maxSteps := 4000000) (disch := omega) only [I_lits, nz, nc, if_pos, if_neg, if_true, if_false, Option.bind_some, true_and, and_true, and_self, or_true, true_or, or_false, false_or, not_true_eq_false, not_false_eq_true, false_and, and_false, Bool.false_eq_true, decide_true, decide_false, eq_self]
      obtain ⟨g', e1, e2, e3, e4, e5⟩ := ih (j + 1) (seti (seti g 1 (L + (j : Int)).toNat ((pick a b c d e j >>> (I (24 - 8 * ((j : Int) - (j : Int) / 4 * 4)) &&& 31)) &&& I 255)) 0 1 (I (L + j + 1))) (by omega) (by omega) (by
        rw [seti1, if_pos ⟨rfl, rfl⟩]
        congr 1
        omega)
      refine ⟨g', ?_, ?_, ?_, ?_, ?_⟩
      · rw [← e1]
        simp only [seti1, show ¬ (0 = 1) from by omega, false_and, if_false, h4, I_add]
        rfl
      · rw [e2]; rfl
      · intro k x y
        rw [e3 k x y, seti_r x, seti_r y]
      · intro i
        rw [e4 i, seti1, seti_r (by omega)]
        by_cases hi : i = 1
        · rw [if_pos hi, if_pos hi]
        · rw [if_neg hi, if_neg hi, if_neg (by omega)]
      · intro i hi
        rw [e5 i hi, seti_r (by omega), seti1]
        by_cases hc : L + ((j + 1 : Nat) : Int) ≤ i ∧ i < L + 20
        · rw [if_pos hc, if_pos (by omega)]
        · rw [if_neg hc]
          by_cases hd : i = L + j
          · rw [if_pos (by omega), if_pos (by omega)]
            unfold byt
            rw [show (i - L).toNat = j by omega, show ((j : Int) - (j : Int) / 4 * 4) = ((j % 4 : Nat) : Int) by omega]
            rfl
          · rw [if_neg (by omega), if_neg (by omega)]
theorem op_feed (h : Sim σ τ q) (hF : 10000 ≤ F) (a b c d e : Int32) : Op (f_X11_feed F a b c d e σ) (f_X12_feed F a b c d e τ) q := by
  have hS := h
  obtain ⟨B, N, h1, ⟨n, n0, n1, n2, n3, n4⟩, h3, h4, h5, h6, h7, h8⟩ := h
  unfold f_X11_feed f_X12_feed f_X9_hasRoom
  rw [n2, n3]
  by_cases hn : n + 20 ≤ 4000
  · simp (maxSteps := 4000000) (disch := omega) only [I_lits, nz, nc, if_pos, if_neg, if_true, if_false, Option.bind_some, true_and, and_true, and_self, or_true, true_or, or_false, false_or, not_true_eq_false, not_false_eq_true, false_and, and_false, Bool.false_eq_true, decide_true, decide_false, eq_self, hn]
    obtain ⟨s1, a1, a2, a3, a4, a5⟩ := c_append (F := F) a n n0 (by omega) hF σ n2
    obtain ⟨s2, b1, b2, b3, b4, b5⟩ := c_append (F := F) b (n + 4) (by omega) (by omega) hF s1 (by rw [a4, if_pos rfl])
    obtain ⟨s3, c1, c2, c3, c4, c5⟩ := c_append (F := F) c (n + 4 + 4) (by omega) (by omega) hF s2 (by rw [b4, if_pos rfl])
    obtain ⟨s4, d1, d2, d3, d4, d5⟩ := c_append (F := F) d (n + 4 + 4 + 4) (by omega) (by omega) hF s3 (by rw [c4, if_pos rfl])
    obtain ⟨s5, e1, e2, e3, e4, e5⟩ := c_append (F := F) e (n + 4 + 4 + 4 + 4) (by omega) (by omega) hF s4 (by rw [d4, if_pos rfl])
    obtain ⟨t1, g1, g2, g3, g4, g5⟩ := m_feed_L (F := F) a b c d e n n0 (by omega) F 0 τ (by omega) (by omega) (by rw [n3]; congr 1; omega)
    have g1' : f_X12_feed_L20 F a b c d e F (I 0) τ = some t1 := g1
    simp only [a1, b1, c1, d1, e1, g1', Option.bind_some]
    have hl : s5.1 9 6 = I (n + 20) := by
      rw [e4, if_pos rfl]; congr 1; omega
    have hm : t1.1 0 1 = I (n + 20) := by
      rw [g4, if_pos rfl]
    have rC : ∀ k, k ≠ 9 → k ≠ 10 → s5.1 k = σ.1 k := fun k x y => by rw [e3 k x y, d3 k x y, c3 k x y, b3 k x y, a3 k x y]
    have r2 : s5.2 = σ.2 := by rw [e2, d2, c2, b2, a2]
    have rM : ∀ j, j ≠ 1 → t1.1 0 j = τ.1 0 j := fun j hj => by rw [g4, if_neg hj]
    rw [hl, hm]
    refine ⟨_, _, _, rfl, rfl, B, N, cor_fr h1 (fun a _ _ => rC a (by omega) (by omega)) (by rw [r2]) (fun a _ _ => g3 a (by omega) (by omega)) (fun j _ => rM j (by omega)) (by rw [g2]), ⟨n + 20, by omega, hn, hl, hm, ?_⟩, ou_fr h3 (rC 63 (by omega) (by omega)) (by rw [rC 62 (by omega) (by omega)]) (g3 16 (by omega) (by omega)) (rM 28 (by omega)), jo_fr h4 (rC 37 (by omega) (by omega)) (rC 36 (by omega) (by omega)) (g3 15 (by omega) (by omega)) (fun j _ _ => rM j (by omega)), fun s x y => sh_fr x y (h5 s x y) (fun a _ _ => rC a (by omega) (by omega)) (by rw [rC 36 (by omega) (by omega)]) (fun a _ _ => g3 a (by omega) (by omega)), ?_, ?_, ?_⟩
    · intro i i0 i1
      rw [e5 i i0, d5 i i0, c5 i i0, b5 i i0, a5 i i0, g5 i i0]
      by_cases hi : i < n
      · rw [if_neg (by omega), if_neg (by omega), if_neg (by omega), if_neg (by omega), if_neg (by omega), if_neg (by omega)]
        exact n4 i i0 hi
      · rw [if_pos (show n + ((0 : Nat) : Int) ≤ i ∧ i < n + 20 by omega)]
        obtain ⟨v, v0, v1, v2⟩ := and255 ((pick a b c d e (i - n).toNat) >>> (I (24 - 8 * ((i - n).toNat % 4 : Nat)) &&& 31))
        refine ⟨v, v0, v1, ?_, v2⟩
        have hb := byt_c (pick a b c d e (i - n).toNat) (i - n).toNat
        have hv : byt (pick a b c d e (i - n).toNat) (i - n).toNat = I v := v2
        rw [hv] at hb
        rw [← hb]
        congr 1
        unfold pick
        by_cases i4 : i < n + 4
        · rw [if_neg (by omega), if_neg (by omega), if_neg (by omega), if_neg (by omega), if_pos (by omega), if_pos (by omega)]
        · by_cases i8 : i < n + 8
          · rw [if_neg (by omega), if_neg (by omega), if_neg (by omega), if_pos (by omega), if_neg (by omega), if_pos (by omega)]
            unfold bytc
            rw [show ((i - (n + 4)).toNat % 4 : Nat) = ((i - n).toNat % 4 : Nat) by omega]
          · by_cases i12 : i < n + 12
            · rw [if_neg (by omega), if_neg (by omega), if_pos (by omega), if_neg (by omega), if_neg (by omega), if_pos (by omega)]
              unfold bytc
              rw [show ((i - (n + 4 + 4)).toNat % 4 : Nat) = ((i - n).toNat % 4 : Nat) by omega]
            · by_cases i16 : i < n + 16
              · rw [if_neg (by omega), if_pos (by omega), if_neg (by omega), if_neg (by omega), if_neg (by omega), if_pos (by omega)]
                unfold bytc
                rw [show ((i - (n + 4 + 4 + 4)).toNat % 4 : Nat) = ((i - n).toNat % 4 : Nat) by omega]
              · rw [if_pos (by omega), if_neg (by omega), if_neg (by omega), if_neg (by omega), if_neg (by omega)]
                unfold bytc
                rw [show ((i - (n + 4 + 4 + 4 + 4)).toNat % 4 : Nat) = ((i - n).toNat % 4 : Nat) by omega]
    · rw [rC 1 (by omega) (by omega), rM 2 (by omega)]; exact h6
    · rw [r2, g2]; exact h7
    · rw [g3 20 (by omega) (by omega)]; exact h8
  · simp (maxSteps := 4000000) (disch := omega) only [I_lits, nz, nc, if_pos, if_neg, if_true, if_false, Option.bind_some, true_and, and_true, and_self, or_true, true_or, or_false, false_or, not_true_eq_false, not_false_eq_true, false_and, and_false, Bool.false_eq_true, decide_true, decide_false, eq_self, hn, show (4000 : Int) < n + 20 from by omega]
    exact ⟨_, _, _, rfl, rfl, hS⟩
end FED
