/-! the reference's tokens -/
/-- what take() leaves alone -/
def FrT (τ g : St) : Prop := (∀ c, c ≠ 0 → g.1 c = τ.1 c) ∧ (∀ j, j ≠ 29 → j ≠ 30 → j ≠ 31 → j ≠ 33 → j ≠ 34 → g.1 0 j = τ.1 0 j) ∧ (∀ c, c ≠ 0 → g.2 c = τ.2 c) ∧ ∀ j, j ≠ 32 → g.2 0 j = τ.2 0 j
theorem frt_rfl (τ : St) : FrT τ τ := ⟨fun _ _ => rfl, fun _ _ _ _ _ _ => rfl, fun _ _ => rfl, fun _ _ => rfl⟩
theorem frt_tr {τ g g' : St} (h : FrT τ g) (h' : FrT g g') : FrT τ g' := ⟨fun c a => by rw [h'.1 c a, h.1 c a], fun j a b c d e => by rw [h'.2.1 j a b c d e, h.2.1 j a b c d e], fun c a => by rw [h'.2.2.1 c a, h.2.2.1 c a], fun j a => by rw [h'.2.2.2 j a, h.2.2.2 j a]⟩
theorem frt_i {τ : St} {j : Nat} {v : Int32} (h : j = 29 ∨ j = 30 ∨ j = 31 ∨ j = 33 ∨ j = 34) : FrT τ (seti τ 0 j v) := ⟨fun c a => seti_r a, fun i a b c d e => by rw [seti1, if_neg (by omega)], fun _ _ => rfl, fun _ _ => rfl⟩
theorem frt_l {τ : St} {v : Int64} : FrT τ (setl τ 0 32 v) := ⟨fun _ _ => rfl, fun _ _ _ _ _ _ => rfl, fun c a => setl_r a, fun j a => by rw [setl2, if_neg (by omega)]⟩
theorem frt_x {n : Int} {ch : Int → Int} {τ g : St} (h : FrT τ g) (hM : TxM n ch τ) : TxM n ch g := ⟨by rw [h.2.1 1 (by omega) (by omega) (by omega) (by omega) (by omega)]; exact hM.1, fun i a b => by rw [h.1 1 (by omega)]; exact hM.2 i a b⟩
/-- the reference's types of tokens -/
def mty (T : Int) : Int := if T = 2 then 1 else if T = 3 then 2 else if T = 4 then 4 else if T = 0 then 6 else if T = 1 then 5 else 3
section TAK
variable {n : Int} {ch : Int → Int} {τ : St} {F : Nat}
theorem m_blanks (hA : TxA n ch) {s : Int} (s0 : 0 ≤ s) (s1 : s ≤ n) (hs : ch s ≠ 10 ∧ ch s ≠ 32) : ∀ (m : Nat) (x : Int) (g : St), 0 ≤ x → Blk n ch x s → s - x < m → TxM n ch g → g.1 0 31 = I x → ∃ g', f_X12_take_L0 F m g = some g' ∧ FrT g g' ∧ g'.1 0 31 = I s := by
  have h1 := hA.2.1
  intro m
  induction m with
  | zero =>
    intro x g a b c
    have := b.1
    omega
  | succ m ih =>
    intro x g a b c d e
    have hxs := b.1
    have hbx := hA.2.2.1 x
    rw [f_X12_take_L0, e, m_byteAt hA d a (by omega), Option.bind_some, Option.bind_some]
    have q10 : (I (ch x) = (10 : Int32)) ↔ ch x = 10 := I_eq (b := 10) (by omega) (by omega) (by omega) (by omega)
    have q32 : (I (ch x) = (32 : Int32)) ↔ ch x = 32 := I_eq (b := 32) (by omega) (by omega) (by omega) (by omega)
    by_cases hx : x = s
    · rw [hx] at q10 q32 ⊢
      rw [if_neg (fun q => hs.2 (q32.mp q)), Option.bind_some, if_neg (fun q => hs.1 (q10.mp q))]
      rw [hx] at e
      exact ⟨g, rfl, frt_rfl g, e⟩
    · have hb := (b.2 x (Int.le_refl _) (by omega)).2
      have next := ih (x + 1) (seti g 0 31 (I (x + 1))) (by omega) ⟨by omega, fun l p q => b.2 l (by omega) q⟩ (by omega) (frt_x (frt_i (by omega)) d) (by rw [seti1, if_pos ⟨rfl, rfl⟩])
      obtain ⟨g', n1, n2, n3⟩ := next
      have hj : (Option.bind (some (seti g 0 31 (I x + (1 : Int32)))) fun s4 => f_X12_take_L0 F m s4) = some g' := by
        rw [Option.bind_some, show (1 : Int32) = I 1 from rfl, I_add, n1]
      refine ⟨g', ?_, frt_tr (frt_i (by omega)) n2, n3⟩
      by_cases h32 : ch x = 32
      · rw [if_pos (q32.mpr h32)]
        exact hj
      · have h10 : ch x = 10 := by
          rcases hb with q | q
          · exact q
          · exact absurd q h32
        rw [if_neg (fun q => h32 (q32.mp q)), Option.bind_some, if_pos (q10.mpr h10)]
        exact hj
theorem m_word (hA : TxA n ch) (hF : 10000 ≤ F) {s r : Int} (s0 : 0 ≤ s) (s1 : s < n) (hR : Row ch s r) (hr : s + r ≤ n) (r1 : 1 ≤ r) {g : St} (hM : TxM n ch g) (hx : g.1 0 31 = I s) : ∃ g', f_X12_takeWord F (I (ch s)) g = some g' ∧ FrT g g' ∧ g'.1 0 30 = g.1 0 30 ∧ g'.1 0 31 = I (s + r) ∧ g'.1 0 33 = I r ∧ g'.2 0 32 = pkA ch (if r < 8 then r else 8).toNat s 0 ∧ g'.1 0 29 = I (mty (tyA ch s r)) := by
  have h1 := hA.2.1
  have hb := hA.2.2.1 s
  have loop : ∀ (m : Nat) (v : Int) (g : St) (x4 : Int32), 0 ≤ v → v ≤ r → r - v < m → TxM n ch g → g.1 0 31 = I (s + v) → g.1 0 33 = I v → g.2 0 32 = pkA ch (if v < 8 then v else 8).toNat s 0 → ∃ g', f_X12_takeWord_L20 F x4 m (I (if isS (ch s) && allB (fun j => !(isG (ch j))) v.toNat s then 1 else 0)) g = some (I (if isS (ch s) && allB (fun j => !(isG (ch j))) r.toNat s then 1 else 0), g') ∧ FrT g g' ∧ g'.1 0 30 = g.1 0 30 ∧ g'.1 0 31 = I (s + r) ∧ g'.1 0 33 = I r ∧ g'.2 0 32 = pkA ch (if r < 8 then r else 8).toNat s 0 := by
    intro m
    induction m with
    | zero => intro v g x4 a b c; omega
    | succ m ih =>
      intro v g x4 a b c d e f w
      have hbv := hA.2.2.1 (s + v)
      have mb := m_byteAt hA d (i := s + v) (by omega) (by omega)
      rw [f_X12_takeWord_L20, e, mb, Option.bind_some, m_isSmall (by omega) (by omega), Option.bind_some, Option.bind_some]
      by_cases hv : v = r
      · have hl := hR.2.2
        rw [← hv] at hl
        unfold isAl at hl
        simp only [Bool.or_eq_false_iff] at hl
        rw [hl.1.1, if_pos (by decide), Option.bind_some, m_isGreat (by omega) (by omega), hl.1.2, Option.bind_some, if_pos (by decide), Option.bind_some, m_isFigure (by omega) (by omega), hl.2, Option.bind_some, if_pos (by decide)]
        rw [hv] at e f w ⊢
        exact ⟨g, rfl, frt_rfl g, rfl, e, f, w⟩
      · have hl := hR.2.1 (s + v) (by omega) (by omega)
        -- the body
        have hflag : (Option.bind (some (fun (_ : Unit) => some (0 : Int32))) fun jp12 => if I (if isS (ch s) && allB (fun j => !(isG (ch j))) v.toNat s then 1 else 0) = 0 then jp12 () else Option.bind (some (I (ch (s + v)))) fun x14 => Option.bind (some (f_X12_isGreat x14)) fun x15 => if x15 = 0 then some (1 : Int32) else jp12 ()) = some (I (if isS (ch s) && allB (fun j => !(isG (ch j))) (v + 1).toNat s then 1 else 0)) := by
          rw [Option.bind_some, Option.bind_some, m_isGreat (by omega) (by omega), Option.bind_some]
          have e1 : allB (fun j => !(isG (ch j))) (v + 1).toNat s = (allB (fun j => !(isG (ch j))) v.toNat s && !(isG (ch (s + v)))) := by
            rw [show (v + 1).toNat = v.toNat + 1 by omega, allB_add]
            rw [show s + ((v.toNat : Nat) : Int) = s + v by omega]
            simp [allB]
          rw [e1]
          cases isS (ch s) <;> cases allB (fun j => !(isG (ch j))) v.toNat s <;> cases isG (ch (s + v)) <;> decide
        have hword : (if I v < (8 : Int32) then Option.bind (some (I (ch (s + v)))) fun x19 => some (((g.2 0 32) <<< ((8 : Int32).toInt64 &&& 63)) ||| (x19.toInt64)) else some (g.2 0 32)) = some (pkA ch (if v + 1 < 8 then v + 1 else 8).toNat s 0) := by
          rw [w]
          by_cases h8 : v < 8
          · have q8 : I v < (8 : Int32) := (I_lt (b := 8) (by omega) (by omega) (by omega) (by omega)).mpr h8
            rw [if_pos q8, Option.bind_some, if_pos h8]
            have : (if v + 1 < 8 then v + 1 else 8).toNat = v.toNat + 1 := by split <;> omega
            rw [this, pkA_suc, show s + ((v.toNat : Nat) : Int) = s + v by omega]
          · have q8 : ¬ I v < (8 : Int32) := fun q => h8 ((I_lt (b := 8) (by omega) (by omega) (by omega) (by omega)).mp q)
            rw [if_neg q8, if_neg h8, if_neg (by omega)]
        have f33 : (setl g 0 32 (pkA ch (if v + 1 < 8 then v + 1 else 8).toNat s 0)).1 0 33 = I v := f
        have f31 : (seti (setl g 0 32 (pkA ch (if v + 1 < 8 then v + 1 else 8).toNat s 0)) 0 33 (I (v + 1))).1 0 31 = I (s + v) := by rw [seti1, if_neg (by omega)]; exact e
        have fr : FrT g (seti (seti (setl g 0 32 (pkA ch (if v + 1 < 8 then v + 1 else 8).toNat s 0)) 0 33 (I (v + 1))) 0 31 (I (s + v + 1))) := frt_tr frt_l (frt_tr (frt_i (by omega)) (frt_i (by omega)))
        obtain ⟨g', n1, n2, n3, n4, n5, n6⟩ := ih (v + 1) (seti (seti (setl g 0 32 (pkA ch (if v + 1 < 8 then v + 1 else 8).toNat s 0)) 0 33 (I (v + 1))) 0 31 (I (s + v + 1))) x4 (by omega) (by omega) (by omega) (frt_x fr d) (by rw [seti1, if_pos ⟨rfl, rfl⟩, show s + v + 1 = s + (v + 1) by omega]) (by rw [seti1, if_neg (by omega), seti1, if_pos ⟨rfl, rfl⟩]) (by rw [seti2, seti2, setl2, if_pos ⟨rfl, rfl⟩])
        have hbody : (Option.bind (Option.bind (some (fun (_ : Unit) => some (0 : Int32))) fun jp12 => if I (if isS (ch s) && allB (fun j => !(isG (ch j))) v.toNat s then 1 else 0) = 0 then jp12 () else Option.bind (some (I (ch (s + v)))) fun x14 => Option.bind (some (f_X12_isGreat x14)) fun x15 => if x15 = 0 then some (1 : Int32) else jp12 ()) fun t10 => Option.bind (if I v < (8 : Int32) then Option.bind (some (I (ch (s + v)))) fun x19 => some (((g.2 0 32) <<< ((8 : Int32).toInt64 &&& 63)) ||| (x19.toInt64)) else some (g.2 0 32)) fun t17 => Option.bind (some (setl g 0 32 t17)) fun s20 => Option.bind (some (seti s20 0 33 ((s20.1 0 33) + (1 : Int32)))) fun s21 => Option.bind (some (seti s21 0 31 ((s21.1 0 31) + (1 : Int32)))) fun s22 => f_X12_takeWord_L20 F x4 m t10 s22) = some (I (if isS (ch s) && allB (fun j => !(isG (ch j))) r.toNat s then 1 else 0), g') := by
          rw [hflag, Option.bind_some, hword, Option.bind_some, Option.bind_some, f33, show (1 : Int32) = I 1 from rfl, I_add, Option.bind_some, f31, I_add, Option.bind_some, n1]
        refine ⟨g', ?_, frt_tr fr n2, ?_, n4, n5, n6⟩
        · rw [f]
          by_cases hs : isS (ch (s + v)) = true
          · rw [hs, if_neg (by decide)]
            exact hbody
          · rw [Bool.eq_false_iff.mpr hs, if_pos (by decide), Option.bind_some, m_isGreat (by omega) (by omega), Option.bind_some]
            by_cases hg : isG (ch (s + v)) = true
            · have q1 : ¬ (if isG (ch (s + v)) = true then (1 : Int32) else 0) = 0 := by rw [hg]; decide
              rw [if_neg q1]
              exact hbody
            · have hd : isD (ch (s + v)) = true := by
                unfold isAl at hl
                rw [Bool.eq_false_iff.mpr hs, Bool.eq_false_iff.mpr hg] at hl
                simpa using hl
              rw [Bool.eq_false_iff.mpr hg, if_pos (by decide), Option.bind_some, m_isFigure (by omega) (by omega), hd, Option.bind_some, if_neg (by decide)]
              exact hbody
        · rw [n3, seti1, if_neg (by omega), seti1, if_neg (by omega)]; rfl
  have hl := hR.2.1 s (by omega) (by omega)
  unfold f_X12_takeWord
  have fr0 : FrT g (seti (setl g 0 32 0) 0 33 (I 0)) := frt_tr frt_l (frt_i (by omega))
  obtain ⟨g', n1, n2, n3, n4, n5, n6⟩ := loop F 0 (seti (setl g 0 32 0) 0 33 (I 0)) (if isG (ch s) then 1 else 0) (by omega) (by omega) (by omega) (frt_x fr0 hM) (by rw [seti1, if_neg (by omega), Int.add_zero]; exact hx) (by rw [seti1, if_pos ⟨rfl, rfl⟩]) (by rw [seti2, setl2, if_pos ⟨rfl, rfl⟩]; rfl)
  have n1' : f_X12_takeWord_L20 F (if isG (ch s) = true then 1 else 0) F (if isS (ch s) = true then (1 : Int32) else 0) (seti (setl g 0 32 0) 0 33 (0 : Int32)) = some (I (if isS (ch s) && allB (fun j => !(isG (ch j))) r.toNat s then 1 else 0), g') := by
    rw [← n1]
    congr 1
    cases isS (ch s) <;> rfl
  rw [Option.bind_some, Option.bind_some, m_isSmall (by omega) (by omega), Option.bind_some, m_isGreat (by omega) (by omega), Option.bind_some, n1', Option.bind_some]
  have et : (if (8 : Int32) < g'.1 0 33 then some (6 : Int32) else if I (if isS (ch s) && allB (fun j => !(isG (ch j))) r.toNat s then 1 else 0) = 0 then (if (if isG (ch s) = true then (1 : Int32) else 0) = 0 then some (6 : Int32) else some (2 : Int32)) else some (1 : Int32)) = some (I (mty (tyA ch s r))) := by
    rw [n5]
    unfold tyA
    by_cases h8 : 8 < r
    · have q8 : (8 : Int32) < I r := (I_lt (a := 8) (by omega) (by omega) (by omega) (by omega)).mpr h8
      rw [if_pos q8, if_pos h8]
      rfl
    · have q8 : ¬ (8 : Int32) < I r := fun q => h8 ((I_lt (a := 8) (by omega) (by omega) (by omega) (by omega)).mp q)
      rw [if_neg q8, if_neg h8]
      have hexcl : isS (ch s) = true → isG (ch s) = false := fun q => by
        unfold isS at q; unfold isG
        rw [decide_eq_true_eq] at q
        exact decide_eq_false (by omega)
      by_cases hs : isS (ch s) = true
      · rw [hexcl hs, hs]
        cases allB (fun j => !(isG (ch j))) r.toNat s <;> rfl
      · rw [Bool.eq_false_iff.mpr hs]
        cases isG (ch s) <;> rfl
  rw [et, Option.bind_some, Option.bind_some]
  refine ⟨_, rfl, frt_tr fr0 (frt_tr n2 (frt_i (by omega))), ?_, ?_, ?_, ?_, by rw [seti1, if_pos ⟨rfl, rfl⟩]⟩
  · rw [seti1, if_neg (by omega), n3, seti1, if_neg (by omega)]; rfl
  · rw [seti1, if_neg (by omega)]; exact n4
  · rw [seti1, if_neg (by omega)]; exact n5
  · rw [seti2]; exact n6
end TAK
