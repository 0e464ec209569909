/-! names of one letter -/
theorem lg_gt {x y : Int64} : (0 < lg_cmp x y) ↔ y.toInt < x.toInt := by
  unfold lg_cmp
  by_cases h : x > y
  · rw [if_pos h]
    exact ⟨fun _ => Int64.lt_iff_toInt_lt.mp h, fun _ => by decide⟩
  · rw [if_neg h]
    have h' : ¬ (y.toInt < x.toInt) := fun q => h (Int64.lt_iff_toInt_lt.mpr q)
    by_cases e : x = y
    · rw [if_pos e]
      exact ⟨fun q => absurd q (by decide), fun q => absurd q h'⟩
    · rw [if_neg e]
      exact ⟨fun q => absurd q (by decide), fun q => absurd q h'⟩
theorem lg_ge {x y : Int64} : (0 ≤ lg_cmp x y) ↔ y.toInt ≤ x.toInt := by
  unfold lg_cmp
  by_cases h : x > y
  · rw [if_pos h]
    exact ⟨fun _ => Int.le_of_lt (Int64.lt_iff_toInt_lt.mp h), fun _ => by decide⟩
  · rw [if_neg h]
    have h' : ¬ (y.toInt < x.toInt) := fun q => h (Int64.lt_iff_toInt_lt.mpr q)
    by_cases e : x = y
    · rw [if_pos e, e]
      exact ⟨fun _ => Int.le_refl _, fun _ => by decide⟩
    · rw [if_neg e]
      refine ⟨fun q => absurd q (by decide), fun q => ?_⟩
      exfalso
      have : x.toInt = y.toInt := by omega
      exact e (Int64.toInt.inj this)
theorem byte64 : ∀ b : Fin 256, (I ((b.val : Nat) : Int)).toInt64.toBitVec.toNat = b.val := by decide +kernel
theorem pk_step {x : Int64} {a : Nat} {c : Int} (hx : x.toBitVec.toNat = a) (ha : a < 36028797018963968) (c0 : 0 ≤ c) (c1 : c < 256) : ((x <<< ((8 : Int32).toInt64 &&& 63)) ||| (I c).toInt64).toBitVec.toNat = 256 * a + c.toNat := by
  have e8 : (8 : Int32).toInt64 &&& 63 = (8 : Int64) := by decide
  have hb := byte64 ⟨c.toNat, by omega⟩
  have ec : (((⟨c.toNat, by omega⟩ : Fin 256).val : Nat) : Int) = c := by
    show ((c.toNat : Nat) : Int) = c
    omega
  rw [ec] at hb
  have hb' : (I c).toInt64.toBitVec.toNat = c.toNat := hb
  have e9 : ((8 : Int64).toBitVec.smod 64).toNat = 8 := by decide
  rw [e8, Int64.toBitVec_or, BitVec.toNat_or, hb', Int64.toBitVec_shiftLeft, BitVec.shiftLeft_eq', BitVec.toNat_shiftLeft, e9, hx, Nat.mod_eq_of_lt (by rw [Nat.shiftLeft_eq]; omega), ← Nat.shiftLeft_add_eq_or_of_lt (show c.toNat < 2 ^ 8 by omega), Nat.shiftLeft_eq]
  omega
theorem pk_val {ch : Int → Int} {S : Int} (h0 : 97 ≤ ch S ∧ ch S ≤ 122) : ∀ m : Nat, m < 8 → (∀ j, S ≤ j → j < S + (m + 1 : Nat) → 0 ≤ ch j ∧ ch j < 256) → ∃ a : Nat, (pkA ch (m + 1) S 0).toBitVec.toNat = a ∧ 97 * 256 ^ m ≤ a ∧ a < 123 * 256 ^ m ∧ (m = 0 → (a : Int) = ch S) := by
  intro m
  induction m with
  | zero =>
    intro _ hc
    have z : (0 : Int64).toBitVec.toNat = 0 := by decide
    have := pk_step (c := ch S) z (by omega) (by omega) (by omega)
    refine ⟨_, rfl, ?_⟩
    rw [pkA, pkA, this]
    omega
  | succ m ih =>
    intro hm hc
    obtain ⟨a, a1, a2, a3, _⟩ := ih (by omega) (fun j x y => hc j x (by omega))
    have b : 256 ^ m ≤ 256 ^ 6 := Nat.pow_le_pow_right (by omega) (by omega)
    have b6 : (256 : Nat) ^ 6 = 281474976710656 := by decide
    have hb := hc (S + ((m + 1 : Nat) : Int)) (by omega) (by omega)
    have := pk_step (c := ch (S + ((m + 1 : Nat) : Int))) a1 (by omega) hb.1 hb.2
    refine ⟨_, rfl, ?_⟩
    rw [pkA_suc, this, Nat.pow_succ]
    refine ⟨?_, ?_, fun q => by omega⟩ <;> omega
theorem i64_of {x : Int64} {a : Nat} (h : x.toBitVec.toNat = a) (ha : a < 9223372036854775808) : x = Int64.ofInt a := by
  apply Int64.toBitVec.inj
  apply BitVec.eq_of_toNat_eq
  rw [h, Int64.toBitVec_ofInt, BitVec.toNat_ofInt]
  omega
/-- a word: one letter, or more -/
theorem tok_letter {ch : Int → Int} {S E : Int} {W : Int64} (hA : ∀ i, 0 ≤ ch i ∧ ch i < 256) (h : Tok ch S 2 W E) : (E - S = 1 ↔ (0 ≤ lg_cmp (W - (97 : Int64)) (0 : Int64)) ∧ ¬ (0 < lg_cmp (W - (97 : Int64)) (25 : Int64))) ∧ (E - S = 1 → ∃ c, 0 ≤ c ∧ c ≤ 25 ∧ (W - (97 : Int64)).toInt32 = I c ∧ W.toInt32 - (97 : Int32) = I c) ∧ 1 ≤ E - S ∧ E - S ≤ 8 := by
  obtain ⟨r, hR, h | h | h⟩ := h
  · obtain ⟨r1, hT, hW, hE⟩ := h
    have r8 : r ≤ 8 := by
      by_cases q : 8 < r
      · unfold tyA at hT
        rw [if_pos q] at hT
        exact absurd hT (by decide)
      · omega
    have hs : isS (ch S) = true := by
      unfold tyA at hT
      rw [if_neg (by omega)] at hT
      by_cases q : isS (ch S) = true
      · exact q
      · rw [if_neg q] at hT
        by_cases q2 : isG (ch S) = true
        · rw [if_pos q2] at hT; exact absurd hT (by decide)
        · rw [if_neg q2] at hT; exact absurd hT (by decide)
    have hs' : 97 ≤ ch S ∧ ch S ≤ 122 := by
      unfold isS at hs
      exact of_decide_eq_true hs
    have hm : (if r < 8 then r else 8).toNat = (r.toNat - 1) + 1 := by
      split <;> omega
    rw [hm] at hW
    obtain ⟨a, a1, a2, a3, a4⟩ := pk_val hs' (r.toNat - 1) (by omega) (fun j _ _ => hA j)
    rw [← hW] at a1
    have p7 : 256 ^ (r.toNat - 1) ≤ 256 ^ 7 := Nat.pow_le_pow_right (by omega) (by omega)
    have p77 : (256 : Nat) ^ 7 = 72057594037927936 := by decide
    have eW := i64_of a1 (by omega)
    have e97 : (97 : Int64) = Int64.ofInt 97 := rfl
    have ex : W - (97 : Int64) = Int64.ofInt ((a : Int) - 97) := by rw [eW, e97, Int64.ofInt_sub]
    have ti : (Int64.ofInt ((a : Int) - 97)).toInt = (a : Int) - 97 := Int64.toInt_ofInt_of_le (by omega) (by omega)
    have t0 : (0 : Int64).toInt = 0 := by decide
    have t25 : (25 : Int64).toInt = 25 := by decide
    refine ⟨?_, fun e1 => ?_, by omega, by omega⟩
    · rw [ex, lg_ge, lg_gt, ti, t0, t25]
      constructor
      · intro e1
        have := a4 (by omega)
        omega
      · intro q
        by_cases e : r = 1
        · omega
        · exfalso
          have p1 : 256 ^ 1 ≤ 256 ^ (r.toNat - 1) := Nat.pow_le_pow_right (by omega) (by omega)
          omega
    · have e0 := a4 (by omega)
      refine ⟨ch S - 97, by omega, by omega, ?_, ?_⟩
      · rw [ex, Int64.toInt32_ofInt, e0]; rfl
      · rw [eW, Int64.toInt32_ofInt, e0, show (97 : Int32) = I 97 from rfl]
        exact I_sub _ _
  · exact absurd h.2.2.2.1 (by decide)
  · have hT := h.2.2.2.2.1
    by_cases q : isSg (ch S) = true
    · rw [if_pos q] at hT
      have := sg_ne q
      omega
    · rw [if_neg q] at hT
      exact absurd hT (by decide)
