/-! the place in the text, on both sides -/
def RfT (T S : Int) (W : Int64) (E : Int) (τ : St) : Prop := τ.1 0 29 = I (mty T) ∧ τ.1 0 30 = I S ∧ τ.1 0 31 = I E ∧ ((T = 2 ∨ T = 3) → τ.2 0 32 = W ∧ τ.1 0 33 = I (E - S)) ∧ (mty T = 3 → τ.1 0 34 = I T)
def Tks (n : Int) (ch : Int → Int) (K : TkT) (N : Int) : Prop := 1 ≤ N ∧ N ≤ n + 1 ∧ (∀ j, 0 ≤ j → j < N - 1 → 0 ≤ kS K j ∧ kS K j < n ∧ kS K j < kE K j ∧ kE K j ≤ n ∧ Tok ch (kS K j) (kT K j) (kW K j) (kE K j)) ∧ (kT K (N - 1) = 1 ∧ kS K (N - 1) = n ∧ kE K (N - 1) = n) ∧ Blk n ch 0 (kS K 0) ∧ ∀ j, 0 ≤ j → j + 1 < N → Blk n ch (kE K j) (kS K (j + 1))
section ATT
variable {n : Int} {ch : Int → Int} {τ : St} {F : Nat}
theorem m_take_end (hA : TxA n ch) (hF : 10000 ≤ F) {e : Int} (e0 : 0 ≤ e) (hB : Blk n ch e n) (hM : TxM n ch τ) (hx : τ.1 0 31 = I e) (W : Int64) : ∃ g, f_X12_take F τ = some g ∧ FrT τ g ∧ RfT 1 n W n g := by
  have h1 := hA.2.1
  have h0 := hA.1
  have hn := hA.2.2.2 n (Int.le_refl _)
  obtain ⟨g1, a1, a2, a3⟩ := m_blanks (F := F) hA h0 (Int.le_refl n) ⟨by omega, by omega⟩ F e τ e0 hB (by omega) hM hx
  have m1 := (frt_x a2 hM).1
  have q1 : (seti g1 0 30 (I n)).1 0 1 ≤ (seti g1 0 30 (I n)).1 0 31 := by
    rw [seti1, if_neg (by omega), seti1, if_neg (by omega), m1, a3]
    exact Int32.le_refl _
  unfold f_X12_take
  rw [a1, Option.bind_some, a3, Option.bind_some, if_pos q1, Option.bind_some]
  refine ⟨_, rfl, frt_tr a2 (frt_tr (frt_i (by omega)) (frt_i (by omega))), ?_, ?_, ?_, fun q => by omega, fun q => absurd q (by decide)⟩
  · rw [seti1, if_pos ⟨rfl, rfl⟩]; rfl
  · rw [seti1, if_neg (by omega), seti1, if_pos ⟨rfl, rfl⟩]
  · rw [seti1, if_neg (by omega), seti1, if_neg (by omega)]; exact a3
theorem isSg_iff {c : Int} : isSg c = true ↔ (c = 40 ∨ c = 41 ∨ c = 44 ∨ c = 61 ∨ c = 59 ∨ c = 43 ∨ c = 45 ∨ c = 58) := by
  unfold isSg
  simp only [Bool.or_eq_true, beq_iff_eq, or_assoc]
theorem mty_sg {c : Int} (h : isSg c = true) : mty c = 3 := by
  rcases isSg_iff.mp h with q | q | q | q | q | q | q | q <;> (rw [q]; rfl)
theorem sg_ne {c : Int} (h : isSg c = true) : 5 ≤ c := by
  rcases isSg_iff.mp h with q | q | q | q | q | q | q | q <;> omega
theorem tyA_or (ch : Int → Int) (i r : Int) : tyA ch i r = 0 ∨ tyA ch i r = 2 ∨ tyA ch i r = 3 := by
  unfold tyA
  split
  · exact .inl rfl
  · split
    · split
      · exact .inr (.inl rfl)
      · exact .inl rfl
    · split
      · exact .inr (.inr rfl)
      · exact .inl rfl
theorem tok_nb {S T E : Int} {W : Int64} (h : Tok ch S T W E) : ch S ≠ 10 ∧ ch S ≠ 32 := by
  obtain ⟨r, hR, h | h | h⟩ := h
  · have hl := hR.2.1 S (by omega) (by omega)
    constructor
    · intro q; rw [q] at hl; exact absurd hl (by decide)
    · intro q; rw [q] at hl; exact absurd hl (by decide)
  · omega
  · exact ⟨h.2.2.1, h.2.2.2.1⟩
theorem m_take_tok (hA : TxA n ch) (hF : 10000 ≤ F) {e S T E : Int} {W : Int64} (e0 : 0 ≤ e) (hB : Blk n ch e S) (S1 : S < n) (hE : E ≤ n) (hT : Tok ch S T W E) (hM : TxM n ch τ) (hx : τ.1 0 31 = I e) : ∃ g, f_X12_take F τ = some g ∧ FrT τ g ∧ RfT T S W E g := by
  have h1 := hA.2.1
  have h0 := hA.1
  have heS := hB.1
  obtain ⟨g1, a1, a2, a3⟩ := m_blanks (F := F) hA (by omega) (Int.le_of_lt S1) (tok_nb hT) F e τ e0 hB (by omega) hM hx
  have m1 := (frt_x a2 hM).1
  have q31 : (seti g1 0 30 (I S)).1 0 31 = I S := by rw [seti1, if_neg (by omega)]; exact a3
  have q1 : ¬ (seti g1 0 30 (I S)).1 0 1 ≤ (seti g1 0 30 (I S)).1 0 31 := by
    rw [q31, seti1, if_neg (by omega), m1]
    intro q
    have := (I_le (by omega) (by omega) (by omega) (by omega)).mp q
    omega
  have fr9 : FrT τ (seti g1 0 30 (I S)) := frt_tr a2 (frt_i (by omega))
  have hM9 := frt_x fr9 hM
  have hbS := hA.2.2.1 S
  have hbS1 := hA.2.2.1 (S + 1)
  unfold f_X12_take
  rw [a1, Option.bind_some, a3, Option.bind_some, if_neg q1, q31, m_byteAt hA hM9 (by omega) (by omega), Option.bind_some, Option.bind_some, m_isSmall (by omega) (by omega), m_isGreat (by omega) (by omega), m_isFigure (by omega) (by omega)]
  obtain ⟨r, hR, h | h⟩ := hT
  · have hl := hR.2.1 S (by omega) (by omega)
    have q2 : ¬ ((if isS (ch S) = true then (1 : Int32) else 0) = 0 ∧ (if isG (ch S) = true then (1 : Int32) else 0) = 0 ∧ (if isD (ch S) = true then (1 : Int32) else 0) = 0) := by
      unfold isAl at hl
      revert hl
      cases isS (ch S) <;> cases isG (ch S) <;> cases isD (ch S) <;> decide
    obtain ⟨g', n1, n2, n3, n4, n5, n6, n7⟩ := m_word hA hF (by omega) S1 hR (by omega) h.1 hM9 q31
    rw [if_neg q2, n1, Option.bind_some]
    refine ⟨g', rfl, frt_tr fr9 n2, by rw [h.2.1]; exact n7, ?_, by rw [h.2.2.2]; exact n4, fun _ => ⟨by rw [n6, h.2.2.1], by rw [n5, h.2.2.2, show S + r - S = r by omega]⟩, fun q => ?_⟩
    · rw [n3, seti1, if_pos ⟨rfl, rfl⟩]
    · rw [h.2.1] at q
      rcases tyA_or ch S r with u | u | u <;> (rw [u] at q; exact absurd q (by decide))
  · have hr : r = 0 := by
      rcases h with h | h
      · exact h.1
      · exact h.1
    have hl := hR.2.2
    rw [hr, Int.add_zero] at hl
    have q2 : ((if isS (ch S) = true then (1 : Int32) else 0) = 0 ∧ (if isG (ch S) = true then (1 : Int32) else 0) = 0 ∧ (if isD (ch S) = true then (1 : Int32) else 0) = 0) := by
      unfold isAl at hl
      revert hl
      cases isS (ch S) <;> cases isG (ch S) <;> cases isD (ch S) <;> decide
    rw [if_pos q2, Option.bind_some, Option.bind_some, Option.bind_some]
    have q62 : (I (ch S) = (62 : Int32)) ↔ ch S = 62 := I_eq (b := 62) (by omega) (by omega) (by omega) (by omega)
    have q60 : (I (ch (S + 1)) = (60 : Int32)) ↔ ch (S + 1) = 60 := I_eq (b := 60) (by omega) (by omega) (by omega) (by omega)
    have eS1 : I S + (1 : Int32) = I (S + 1) := by rw [show (1 : Int32) = I 1 from rfl, I_add]
    have fr17 : FrT τ (seti (seti (seti g1 0 30 (I S)) 0 31 (I (S + 1))) 0 34 (I (ch S))) := frt_tr fr9 (frt_tr (frt_i (by omega)) (frt_i (by omega)))
    have q17 : (seti (seti (seti g1 0 30 (I S)) 0 31 (I (S + 1))) 0 34 (I (ch S))).1 0 31 = I (S + 1) := by rw [seti1, if_neg (by omega), seti1, if_pos ⟨rfl, rfl⟩]
    rw [eS1, q17, m_byteAt hA (frt_x fr17 hM) (by omega) (by omega)]
    rcases h with h | h
    · rw [if_pos (q62.mpr h.2.1), Option.bind_some, if_pos (q60.mpr h.2.2.1), Option.bind_some, Option.bind_some]
      refine ⟨_, rfl, frt_tr fr17 (frt_tr (frt_i (by omega)) (frt_i (by omega))), ?_, ?_, ?_, fun q => by omega, fun q => ?_⟩
      · rw [seti1, if_pos ⟨rfl, rfl⟩, h.2.2.2.1]; rfl
      · rw [seti1, if_neg (by omega), seti1, if_neg (by omega), seti1, if_neg (by omega), seti1, if_neg (by omega), seti1, if_pos ⟨rfl, rfl⟩]
      · rw [seti1, if_neg (by omega), seti1, if_pos ⟨rfl, rfl⟩, show I (S + 1) + (1 : Int32) = I (S + 1 + 1) by rw [show (1 : Int32) = I 1 from rfl, I_add], h.2.2.2.2, show S + 1 + 1 = S + 2 by omega]
      · rw [h.2.2.2.1] at q; exact absurd q (by decide)
    · have hj : (Option.bind (if (I (ch S) = (40 : Int32)) ∨ ((I (ch S) = (41 : Int32)) ∨ ((I (ch S) = (44 : Int32)) ∨ ((I (ch S) = (61 : Int32)) ∨ ((I (ch S) = (59 : Int32)) ∨ ((I (ch S) = (43 : Int32)) ∨ ((I (ch S) = (45 : Int32)) ∨ (I (ch S) = (58 : Int32)))))))) then some (1 : Int32) else some (0 : Int32)) fun t20 => Option.bind (if t20 = 0 then some (6 : Int32) else some (3 : Int32)) fun t31 => Option.bind (some (seti (seti (seti (seti g1 0 30 (I S)) 0 31 (I (S + 1))) 0 34 (I (ch S))) 0 29 t31)) fun s33 => some s33) = some (seti (seti (seti (seti g1 0 30 (I S)) 0 31 (I (S + 1))) 0 34 (I (ch S))) 0 29 (I (mty T))) := by
        have p : ∀ z : Int, 0 ≤ z → z < 256 → ((I (ch S) = I z) ↔ ch S = z) := fun z z0 z1 => I_eq (by omega) (by omega) (by omega) (by omega)
        have e40 : (I (ch S) = (40 : Int32)) ↔ ch S = 40 := p 40 (by omega) (by omega)
        have e41 : (I (ch S) = (41 : Int32)) ↔ ch S = 41 := p 41 (by omega) (by omega)
        have e44 : (I (ch S) = (44 : Int32)) ↔ ch S = 44 := p 44 (by omega) (by omega)
        have e61 : (I (ch S) = (61 : Int32)) ↔ ch S = 61 := p 61 (by omega) (by omega)
        have e59 : (I (ch S) = (59 : Int32)) ↔ ch S = 59 := p 59 (by omega) (by omega)
        have e43 : (I (ch S) = (43 : Int32)) ↔ ch S = 43 := p 43 (by omega) (by omega)
        have e45 : (I (ch S) = (45 : Int32)) ↔ ch S = 45 := p 45 (by omega) (by omega)
        have e58 : (I (ch S) = (58 : Int32)) ↔ ch S = 58 := p 58 (by omega) (by omega)
        have hT := h.2.2.2.2.1
        by_cases hs : isSg (ch S) = true
        · rw [if_pos hs] at hT
          have hs' := isSg_iff.mp hs
          have hm : mty T = 3 := by rw [hT]; exact mty_sg hs
          rw [if_pos (by rw [e40, e41, e44, e61, e59, e43, e45, e58]; exact hs'), Option.bind_some, if_neg (by decide), Option.bind_some, Option.bind_some, hm]
          rfl
        · rw [if_neg hs] at hT
          have hs' := fun q => hs (isSg_iff.mpr q)
          rw [if_neg (by rw [e40, e41, e44, e61, e59, e43, e45, e58]; exact hs'), Option.bind_some, if_pos rfl, Option.bind_some, Option.bind_some, hT]
          rfl
      have hres : ∃ g, some (seti (seti (seti (seti g1 0 30 (I S)) 0 31 (I (S + 1))) 0 34 (I (ch S))) 0 29 (I (mty T))) = some g ∧ FrT τ g ∧ RfT T S W E g := by
        refine ⟨_, rfl, frt_tr fr17 (frt_i (by omega)), ?_, ?_, ?_, fun q => ?_, fun q => ?_⟩
        · rw [seti1, if_pos ⟨rfl, rfl⟩]
        · rw [seti1, if_neg (by omega), seti1, if_neg (by omega), seti1, if_neg (by omega), seti1, if_pos ⟨rfl, rfl⟩]
        · rw [seti1, if_neg (by omega), q17, h.2.2.2.2.2]
        · exfalso
          have hT := h.2.2.2.2.1
          by_cases hs : isSg (ch S) = true
          · rw [if_pos hs] at hT
            have := sg_ne hs
            omega
          · rw [if_neg hs] at hT
            omega
        · have hT := h.2.2.2.2.1
          by_cases hs : isSg (ch S) = true
          · rw [if_pos hs] at hT
            rw [seti1, if_neg (by omega), seti1, if_pos ⟨rfl, rfl⟩, hT]
          · rw [if_neg hs] at hT
            rw [hT] at q
            exact absurd q (by decide)
      obtain ⟨g, hg, hg'⟩ := hres
      refine ⟨g, ?_, hg'⟩
      by_cases h62 : ch S = 62
      · rw [if_pos (q62.mpr h62), Option.bind_some, if_neg (fun q => h.2.1 ⟨h62, q60.mp q⟩)]
        exact hj.trans hg
      · rw [if_neg (fun q => h62 (q62.mp q))]
        exact hj.trans hg
end ATT
