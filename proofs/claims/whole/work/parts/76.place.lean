/-! agents go and come -/
def LF (K : Int → Int) (n : Int) : Prop := 0 ≤ n ∧ n < 400 ∧ K n = -1 ∧ ∀ m, 0 ≤ m → m < n → 0 ≤ K m
theorem lf_ex {K : Int → Int} (hK : ∀ n, 0 ≤ n → n < 400 → -1 ≤ K n) (h : cnt (fun n => decide (0 ≤ K n)) 400 < 400) : ∃ n, LF K n := by
  have : ∀ n : Nat, n ≤ 400 → cnt (fun n => decide (0 ≤ K n)) n = n ∨ ∃ m : Int, 0 ≤ m ∧ m < n ∧ K m = -1 ∧ ∀ l, 0 ≤ l → l < m → 0 ≤ K l := by
    intro n
    induction n with
    | zero => intro _; exact Or.inl rfl
    | succ n ih =>
      intro hn
      by_cases hex : ∃ m : Int, 0 ≤ m ∧ m < n ∧ K m = -1 ∧ ∀ l, 0 ≤ l → l < m → 0 ≤ K l
      · obtain ⟨m, a, b, c⟩ := hex
        exact Or.inr ⟨m, a, by omega, c⟩
      · have h1 : cnt (fun n => decide (0 ≤ K n)) n = n := by
          rcases ih (by omega) with q | q
          · exact q
          · exact absurd q hex
        by_cases hk : 0 ≤ K n
        · left
          rw [cnt, h1, decide_eq_true hk]
          simp
        · right
          have hb := hK n (by omega) (by omega)
          refine ⟨n, by omega, by omega, by omega, ?_⟩
          -- all below are taken
          have full : ∀ c : Nat, cnt (fun n => decide (0 ≤ K n)) c = c → ∀ l : Int, 0 ≤ l → l < c → 0 ≤ K l := by
            intro c
            induction c with
            | zero => intro _ l a b; omega
            | succ c ihc =>
              intro hc l a b
              rw [cnt] at hc
              have hb1 := cnt_b (fun n => decide (0 ≤ K n)) c
              by_cases hd : 0 ≤ K c
              · rw [decide_eq_true hd] at hc
                simp only [if_true] at hc
                by_cases e : l = c
                · rw [e]; exact hd
                · exact ihc (by omega) l a (by omega)
              · rw [decide_eq_false hd] at hc
                simp only [Bool.false_eq_true, if_false] at hc
                omega
          exact full n h1
  rcases this 400 (by omega) with q | ⟨m, a, b, c, d⟩
  · omega
  · exact ⟨m, a, by omega, c, d⟩
theorem lf_un {K : Int → Int} {n m : Int} (h : LF K n) (h' : LF K m) : n = m := by
  obtain ⟨a1, a2, a3, a4⟩ := h
  obtain ⟨b1, b2, b3, b4⟩ := h'
  rcases Int.lt_trichotomy n m with q | q | q
  · have := b4 n a1 q; omega
  · exact q
  · have := a4 m b1 q; omega
/-- the class' agents -/
def AgC (K : Int → Int) (z : Int) (g : St) : Prop := (∀ n, 0 ≤ n → n < 400 → g.1 78 n.toNat = I (K n)) ∧ g.1 77 3 = I z ∧ ∃ t, 0 ≤ t ∧ t ≤ 400 ∧ g.1 77 6 = I t ∧ ∀ n, t ≤ n → n < 400 → K n = -1
def FrA (σ g : St) : Prop := g.2 = σ.2 ∧ (∀ c, c ≠ 77 → c ≠ 78 → g.1 c = σ.1 c) ∧ ∀ j, j ≠ 3 → j ≠ 6 → g.1 77 j = σ.1 77 j
theorem fra_rfl (σ : St) : FrA σ σ := ⟨rfl, fun _ _ _ => rfl, fun _ _ _ => rfl⟩
theorem fra_tr {σ g g' : St} (h : FrA σ g) (h' : FrA g g') : FrA σ g' := ⟨by rw [h'.1, h.1], fun c a b => by rw [h'.2.1 c a b, h.2.1 c a b], fun j a b => by rw [h'.2.2 j a b, h.2.2 j a b]⟩
def upd1 (K : Int → Int) (n v : Int) : Int → Int := fun x => if x = n then v else K x
section PLC
variable {F : Nat} {K : Int → Int} {z : Int} {g : St}
theorem c_remove (hb : ∀ n, 0 ≤ n → n < 400 → -1 ≤ K n ∧ K n < 16) (hF : 10000 ≤ F) (h : AgC K z g) {n : Int} (n0 : 0 ≤ n) (n1 : n < 400) (hk : 0 ≤ K n) : ∃ g', f_X4_remove F (I n) g = some g' ∧ FrA g g' ∧ AgC (upd1 K n (-1)) (z - 1) g' := by
  obtain ⟨h1, h2, t, t0, t1, t2, t3⟩ := h
  have loop : ∀ (m : Nat) (t : Int) (g : St), 0 ≤ t → t ≤ 400 → t < m → (∀ n', 0 ≤ n' → n' < 400 → g.1 78 n'.toNat = I (upd1 K n (-1) n')) → g.1 77 6 = I t → (∀ x, t ≤ x → x < 400 → upd1 K n (-1) x = -1) → ∃ g' t', f_X4_remove_L36 F m (I t) g = some g' ∧ g'.2 = g.2 ∧ (∀ c, c ≠ 77 → g'.1 c = g.1 c) ∧ (∀ j, j ≠ 6 → g'.1 77 j = g.1 77 j) ∧ 0 ≤ t' ∧ t' ≤ 400 ∧ g'.1 77 6 = I t' ∧ ∀ x, t' ≤ x → x < 400 → upd1 K n (-1) x = -1 := by
    intro m
    induction m with
    | zero => intro t g a b c; omega
    | succ m ih =>
      intro t g a b c d e f
      rw [f_X4_remove_L36]
      by_cases ht : 0 < t
      · have hkb : -1 ≤ upd1 K n (-1) (t - 1) ∧ upd1 K n (-1) (t - 1) < 16 := by
          unfold upd1
          split
          · omega
          · exact hb _ (by omega) (by omega)
        have e78 := d (t - 1) (by omega) (by omega)
        by_cases hx : upd1 K n (-1) (t - 1) = -1
        · simp (maxSteps := 4000000) (disch := omega) only [I_lits, nz, nc, if_pos, if_neg, if_true, if_false, Option.bind_some, true_and, and_true, and_self, or_true, true_or, or_false, false_or, not_true_eq_false, not_false_eq_true, false_and, and_false, Bool.false_eq_true, decide_true, decide_false, eq_self, ht, e78, hx]
          obtain ⟨g', t', q1, q2, q3, q4, q5⟩ := ih (t - 1) (seti g 77 6 (I (t - 1))) (by omega) (by omega) (by omega) (fun n' a b => by rw [seti_r (by omega)]; exact d n' a b) (by rw [seti1, if_pos ⟨rfl, rfl⟩]) (fun x x1 x2 => by
            by_cases ee : x = t - 1
            · rw [ee]; exact hx
            · exact f x (by omega) x2)
          rw [show t + -1 = t - 1 by omega]
          exact ⟨g', t', q1, q2, fun c hc => by rw [q3 c hc, seti_r hc], fun j hj => by rw [q4 j hj, seti1, if_neg (by omega)], q5⟩
        · simp (maxSteps := 4000000) (disch := omega) only [I_lits, nz, nc, if_pos, if_neg, if_true, if_false, Option.bind_some, true_and, and_true, and_self, or_true, true_or, or_false, false_or, not_true_eq_false, not_false_eq_true, false_and, and_false, Bool.false_eq_true, decide_true, decide_false, eq_self, ht, e78, hx]
          exact ⟨g, t, rfl, rfl, fun _ _ => rfl, fun _ _ => rfl, a, b, e, f⟩
      · simp (maxSteps := 4000000) (disch := omega) only [I_lits, nz, nc, if_pos, if_neg, if_true, if_false, Option.bind_some, true_and, and_true, and_self, or_true, true_or, or_false, false_or, not_true_eq_false, not_false_eq_true, false_and, and_false, Bool.false_eq_true, decide_true, decide_false, eq_self, ht]
        exact ⟨g, t, rfl, rfl, fun _ _ => rfl, fun _ _ => rfl, a, b, e, f⟩
  unfold f_X4_remove f_X4_has f_J9_min_7cf53
  have e78 := h1 n n0 n1
  have hbn := hb n n0 n1
  have r3 : (seti g 78 n.toNat (I (-1))).1 77 3 = I z := by rw [seti_r (by omega)]; exact h2
  have r6 : (seti (seti g 78 n.toNat (I (-1))) 77 3 (I (z - 1))).1 77 6 = I t := by rw [seti1, if_neg (by omega), seti_r (by omega)]; exact t2
  simp (maxSteps := 4000000) (disch := omega) only [I_lits, nz, nc, if_pos, if_neg, if_true, if_false, Option.bind_some, true_and, and_true, and_self, or_true, true_or, or_false, false_or, not_true_eq_false, not_false_eq_true, false_and, and_false, Bool.false_eq_true, decide_true, decide_false, eq_self, n0, n1, e78, i01, r3, r6]
  obtain ⟨g', t', q1, q2, q3, q4, q5, q6, q7, q8⟩ := loop F t (seti (seti g 78 n.toNat (I (-1))) 77 3 (I (z - 1))) t0 t1 (by omega) (fun n' a b => by
    rw [seti_r (by omega), seti1]
    unfold upd1
    by_cases e : n' = n
    · rw [if_pos (by rw [e]; exact ⟨rfl, rfl⟩), if_pos e]
    · rw [if_neg (by omega), if_neg e]; exact h1 n' a b) r6 (fun x x1 x2 => by
    unfold upd1
    split
    · rfl
    · exact t3 x x1 x2)
  rw [q1]
  refine ⟨g', rfl, ⟨by rw [q2]; rfl, fun c c1 c2 => by rw [q3 c c1, seti_r c1, seti_r c2], fun j j1 j2 => by rw [q4 j j2, seti1, if_neg (by omega), seti_r (by omega)]⟩, fun n' a b => ?_, by rw [q4 3 (by omega), seti1, if_pos ⟨rfl, rfl⟩], t', q5, q6, q7, q8⟩
  rw [q3 78 (by omega), seti_r (by omega), seti1]
  unfold upd1
  by_cases e : n' = n
  · rw [if_pos (by rw [e]; exact ⟨rfl, rfl⟩), if_pos e]
  · rw [if_neg (by omega), if_neg e]; exact h1 n' a b
theorem c_add (hb : ∀ n, 0 ≤ n → n < 400 → -1 ≤ K n ∧ K n < 16) (hF : 10000 ≤ F) (h : AgC K z g) {n v fr : Int} (hn : LF K n) (f0 : 0 ≤ fr) (f1 : fr ≤ n) (v0 : 0 ≤ v) (v1 : v < 16) : ∃ g', f_X4_add F 77 (I v) (I fr) g = some (I n, g') ∧ FrA g g' ∧ AgC (upd1 K n v) (z + 1) g' := by
  obtain ⟨h1, h2, t, t0, t1, t2, t3⟩ := h
  obtain ⟨n0, n1, n2, n3⟩ := hn
  have loop : ∀ (k0 : Int32 → Option (Int32 × St)) (m : Nat) (w : Int), 0 ≤ w → w ≤ n → n - w < m → f_X4_add_L6 F 77 (I v) g k0 m (I w) = k0 (I n) := by
    intro k0 m
    induction m with
    | zero => intro w a b c; omega
    | succ m ih =>
      intro w a b c
      rw [f_X4_add_L6]
      have e78 := h1 w a (by omega)
      have hbw := hb w a (by omega)
      by_cases e : w = n
      · rw [e] at e78 ⊢
        rw [n2] at e78
        have hlt : I n < (400 : Int32) := (I_lt (b := 400) (by omega) (by omega) (by omega) (by omega)).mpr n1
        have hin : inb (I n) 400 = true := (I_inb (by omega) (by omega)).mpr ⟨n0, n1⟩
        have hix : ix (I n) = n.toNat := I_ix (by omega) (by omega)
        rw [if_pos hlt, if_pos hin, hix, show 77 + 1 = 78 from rfl, e78, if_pos (by rfl)]
      · have hw := n3 w a (by omega)
        simp (maxSteps := 4000000) (disch := omega) only [I_lits, nz, nc, if_pos, if_neg, if_true, if_false, Option.bind_some, true_and, and_true, and_self, or_true, true_or, or_false, false_or, not_true_eq_false, not_false_eq_true, false_and, and_false, Bool.false_eq_true, decide_true, decide_false, eq_self, e78]
        exact ih (w + 1) (by omega) (by omega) (by omega)
  have r3 : (seti g 78 n.toNat (I v)).1 77 3 = I z := by rw [seti_r (by omega)]; exact h2
  have r6 : (seti (seti g 78 n.toNat (I v)) 77 3 (I (z + 1))).1 77 6 = I t := by rw [seti1, if_neg (by omega), seti_r (by omega)]; exact t2
  unfold f_X4_add f_J9_max_7cf53
  rw [Option.bind_some, show (0 : Int32) = I 0 from rfl, if_pos ((I_le (by omega) (by omega) (by omega) (by omega)).mpr f0 : I 0 ≤ I fr), loop _ F fr f0 f1 (by omega)]
  simp (maxSteps := 4000000) (disch := omega) only [I_lits, nz, nc, if_pos, if_neg, if_true, if_false, Option.bind_some, true_and, and_true, and_self, or_true, true_or, or_false, false_or, not_true_eq_false, not_false_eq_true, false_and, and_false, Bool.false_eq_true, decide_true, decide_false, eq_self, r3, r6]
  have hfin : ∀ T : Int, 0 ≤ T → T ≤ 400 → (∀ x, T ≤ x → x < 400 → upd1 K n v x = -1) → FrA g (seti (seti (seti g 78 n.toNat (I v)) 77 3 (I (z + 1))) 77 6 (I T)) ∧ AgC (upd1 K n v) (z + 1) (seti (seti (seti g 78 n.toNat (I v)) 77 3 (I (z + 1))) 77 6 (I T)) := by
    intro T T0 T1 T2
    refine ⟨⟨rfl, fun c c1 c2 => by rw [seti_r c1, seti_r c1, seti_r c2], fun j j1 j2 => by rw [seti1, if_neg (by omega), seti1, if_neg (by omega), seti_r (by omega)]⟩, fun n' a b => ?_, by rw [seti1, if_neg (by omega), seti1, if_pos ⟨rfl, rfl⟩], T, T0, T1, by rw [seti1, if_pos ⟨rfl, rfl⟩], T2⟩
    rw [seti_r (by omega), seti_r (by omega), seti1]
    unfold upd1
    by_cases e : n' = n
    · rw [if_pos (by rw [e]; exact ⟨rfl, rfl⟩), if_pos e]
    · rw [if_neg (by omega), if_neg e]; exact h1 n' a b
  by_cases hT : n + 1 ≤ t
  · simp (maxSteps := 4000000) (disch := omega) only [I_lits, nz, nc, if_pos, if_neg, if_true, if_false, Option.bind_some, true_and, and_true, and_self, or_true, true_or, or_false, false_or, not_true_eq_false, not_false_eq_true, false_and, and_false, Bool.false_eq_true, decide_true, decide_false, eq_self, hT]
    have := hfin t t0 t1 (fun x x1 x2 => by
      unfold upd1
      rw [if_neg (by omega)]; exact t3 x x1 x2)
    exact ⟨_, rfl, this⟩
  · simp (maxSteps := 4000000) (disch := omega) only [I_lits, nz, nc, if_pos, if_neg, if_true, if_false, Option.bind_some, true_and, and_true, and_self, or_true, true_or, or_false, false_or, not_true_eq_false, not_false_eq_true, false_and, and_false, Bool.false_eq_true, decide_true, decide_false, eq_self, hT]
    have := hfin (n + 1) (by omega) (by omega) (fun x x1 x2 => by
      unfold upd1
      rw [if_neg (by omega)]; exact t3 x (by omega) x2)
    exact ⟨_, rfl, this⟩
theorem m_least {τ : St} (hb : ∀ n, 0 ≤ n → n < 400 → -1 ≤ K n ∧ K n < 16) (hK : ∀ n, 0 ≤ n → n < 400 → τ.1 12 n.toNat = I (K n)) {n : Int} (hn : LF K n) (c3 c8 c9 c10 : Int32) : ∀ (m : Nat) (w : Int), 0 ≤ w → w ≤ n → n - w < m → f_X12_doStep_L198 F c3 c8 c9 c10 τ m (I w) = some (I n) := by
  obtain ⟨n0, n1, n2, n3⟩ := hn
  intro m
  induction m with
  | zero => intro w a b c; omega
  | succ m ih =>
    intro w a b c
    rw [f_X12_doStep_L198]
    have e := hK w a (by omega)
    have hbw := hb w a (by omega)
    by_cases ew : w = n
    · rw [ew] at e ⊢
      rw [n2] at e
      simp (maxSteps := 4000000) (disch := omega) only [I_lits, nz, nc, if_pos, if_neg, if_true, if_false, Option.bind_some, true_and, and_true, and_self, or_true, true_or, or_false, false_or, not_true_eq_false, not_false_eq_true, false_and, and_false, Bool.false_eq_true, decide_true, decide_false, eq_self, e]
    · have hw := n3 w a (by omega)
      simp (maxSteps := 4000000) (disch := omega) only [I_lits, nz, nc, if_pos, if_neg, if_true, if_false, Option.bind_some, true_and, and_true, and_self, or_true, true_or, or_false, false_or, not_true_eq_false, not_false_eq_true, false_and, and_false, Bool.false_eq_true, decide_true, decide_false, eq_self, e, hw]
      exact ih (w + 1) (by omega) (by omega) (by omega)
end PLC
/-- counts -/
theorem cnt_up {K : Int → Int} {n v : Int} (n0 : 0 ≤ n) (n1 : n < 400) (hk : K n < 0) (hv : 0 ≤ v) : cnt (fun x => decide (0 ≤ upd1 K n v x)) 400 = cnt (fun x => decide (0 ≤ K x)) 400 + 1 := by
  have := cnt_one (p := fun x => decide (0 ≤ K x)) (q := fun x => decide (0 ≤ upd1 K n v x)) (a := n) 400 n0 (fun i _ _ e => by
    unfold upd1
    rw [if_neg e]) (decide_eq_false (by omega)) (by
    unfold upd1
    rw [if_pos rfl]
    exact decide_eq_true hv)
  rw [this, if_pos (by omega)]
theorem cnt_dn {K : Int → Int} {n : Int} (n0 : 0 ≤ n) (n1 : n < 400) (hk : 0 ≤ K n) : cnt (fun x => decide (0 ≤ upd1 K n (-1) x)) 400 = cnt (fun x => decide (0 ≤ K x)) 400 - 1 := by
  have := cnt_one (q := fun x => decide (0 ≤ K x)) (p := fun x => decide (0 ≤ upd1 K n (-1) x)) (a := n) 400 n0 (fun i _ _ e => by
    unfold upd1
    rw [if_neg e]) (by
    unfold upd1
    rw [if_pos rfl]
    rfl) (decide_eq_true hk)
  rw [this, if_pos (by omega)]
  omega
