/-! a kind is read -/
def B20 (τ : St) : Prop := ∀ j, j < 80 → τ.1 20 j = 0 ∨ τ.1 20 j = 1
def FrK (σs σ : St) : Prop := (∀ c, c ≠ 1 → c ≠ 9 → c ≠ 15 → c ≠ 17 → c ≠ 18 → σ.1 c = σs.1 c) ∧ (∀ j, j ≠ 4 → j ≠ 7 → σ.1 1 j = σs.1 1 j) ∧ σ.1 9 6 = σs.1 9 6 ∧ ∀ c, c ≠ 9 → c ≠ 16 → σ.2 c = σs.2 c
def FrL (τs τ : St) : Prop := (∀ c, c ≠ 0 → c ≠ 18 → c ≠ 19 → c ≠ 20 → τ.1 c = τs.1 c) ∧ (∀ j, (j ≤ 28 ∧ j ≠ 2) ∨ 37 ≤ j → τ.1 0 j = τs.1 0 j) ∧ (∀ c, c ≠ 0 → c ≠ 17 → τ.2 c = τs.2 c) ∧ (∀ j, j ≠ 32 → τ.2 0 j = τs.2 0 j) ∧ (B20 τs → B20 τ)
theorem frk_tr {a b c : St} (h : FrK a b) (h' : FrK b c) : FrK a c := ⟨fun x p q r s t => by rw [h'.1 x p q r s t, h.1 x p q r s t], fun j p q => by rw [h'.2.1 j p q, h.2.1 j p q], by rw [h'.2.2.1, h.2.2.1], fun x p q => by rw [h'.2.2.2 x p q, h.2.2.2 x p q]⟩
theorem frl_tr {a b c : St} (h : FrL a b) (h' : FrL b c) : FrL a c := ⟨fun x p q r s => by rw [h'.1 x p q r s, h.1 x p q r s], fun j p => by rw [h'.2.1 j p, h.2.1 j p], fun x p q => by rw [h'.2.2.1 x p q, h.2.2.1 x p q], fun j p => by rw [h'.2.2.2.1 j p, h.2.2.2.1 j p], fun p => h'.2.2.2.2 (h.2.2.2.2 p)⟩
theorem frk_rfl (σ : St) : FrK σ σ := ⟨fun _ _ _ _ _ _ => rfl, fun _ _ _ => rfl, rfl, fun _ _ _ => rfl⟩
theorem frl_rfl (τ : St) : FrL τ τ := ⟨fun _ _ _ _ _ => rfl, fun _ _ => rfl, fun _ _ _ => rfl, fun _ _ => rfl, fun p => p⟩
theorem frk_v {σ g : St} (h : FrV σ g) : FrK σ g := ⟨fun c _ q _ _ _ => h.1 c q, fun j _ _ => by rw [h.1 1 (by omega)], h.2.1 6 (by omega) (by omega) (by omega), fun c p _ => h.2.2.1 c p⟩
theorem frl_t {τ g : St} (h : FrT τ g) : FrL τ g := ⟨fun c p _ _ _ => h.1 c p, fun j a => h.2.1 j (by omega) (by omega) (by omega) (by omega) (by omega), fun c a _ => h.2.2.1 c a, fun j a => h.2.2.2 j a, fun p j q => by rw [h.1 20 (by omega)]; exact p j q⟩
theorem frk_i {σ : St} {c j : Nat} {v : Int32} (h : (c = 15 ∨ c = 17 ∨ c = 18) ∨ (c = 1 ∧ (j = 4 ∨ j = 7))) : FrK σ (seti σ c j v) := ⟨fun d _ _ _ _ _ => seti_r (by omega), fun i a b => by rw [seti1, if_neg (by omega)], by rw [seti1, if_neg (by omega)], fun _ _ _ => rfl⟩
theorem frk_l {σ : St} {j : Nat} {v : Int64} : FrK σ (setl σ 16 j v) := ⟨fun _ _ _ _ _ _ => rfl, fun _ _ _ => rfl, rfl, fun c a b => setl_r b⟩
theorem frl_i {τ : St} {c j : Nat} {v : Int32} (h : (c = 18 ∨ c = 19) ∨ (c = 20 ∧ (v = 0 ∨ v = 1)) ∨ (c = 0 ∧ (j = 2 ∨ j = 35 ∨ j = 36))) : FrL τ (seti τ c j v) := ⟨fun d _ _ _ _ => seti_r (by omega), fun i a => by rw [seti1, if_neg (by omega)], fun _ _ _ => rfl, fun _ _ => rfl, fun p i q => by
  rw [seti1]
  by_cases e : 20 = c ∧ i = j
  · rw [if_pos e]
    rcases h with h | h | h
    · omega
    · exact h.2
    · omega
  · rw [if_neg e]; exact p i q⟩
theorem frl_l {τ : St} {j : Nat} {v : Int64} : FrL τ (setl τ 17 j v) := ⟨fun _ _ _ _ _ => rfl, fun _ _ => rfl, fun c _ a => setl_r a, fun i _ => by rw [setl2, if_neg (by omega)], fun p => p⟩
def FltK (σs τs σ τ : St) : Prop := FrK σs σ ∧ FrL τs τ ∧ ∃ c z : Int, 1 ≤ c ∧ c ≤ 7 ∧ σ.1 1 4 = I c ∧ τ.1 0 35 = I c ∧ σ.1 1 7 = I z ∧ τ.1 0 2 = I z
theorem fltk_go {σs τs σ τ : St} (h1 : FrK σs σ) (h2 : FrL τs τ) {c z : Int} (c1 : 1 ≤ c) (c7 : c ≤ 7) : FltK σs τs (seti (seti σ 1 4 (I c)) 1 7 (I z)) (seti (seti τ 0 35 (I c)) 0 2 (I z)) :=
  ⟨frk_tr h1 (frk_tr (frk_i (by omega)) (frk_i (by omega))), frl_tr h2 (frl_tr (frl_i (by omega)) (frl_i (by omega))), c, z, c1, c7, by rw [seti1, if_neg (by omega), seti1, if_pos ⟨rfl, rfl⟩], by rw [seti1, if_neg (by omega), seti1, if_pos ⟨rfl, rfl⟩], by rw [seti1, if_pos ⟨rfl, rfl⟩], by rw [seti1, if_pos ⟨rfl, rfl⟩]⟩
theorem fltk_ne {σs τs σ τ : St} (h : FltK σs τs σ τ) : ¬ (σ.1 1 4 = 0) := by
  obtain ⟨h1, h2, c, z, h3, h4, h5, h6, h7, h8⟩ := h
  rw [h5]
  intro q
  have := (Ieq (0) (0) (by omega) (by omega) (by omega) (by omega)).mp q
  omega
/-- a kind more, with q ports -/
def addB (B : BkT) (W : Int64) (q : Int) (so : Int → Int) : BkT := (Bkn B + 1, fun k => if k = Bkn B then W else Bnm B k, fun k => if k = Bkn B then q else Bpt B k, fun j => if 5 * Bkn B ≤ j then so (j - 5 * Bkn B) else Bso B j, B.2.2.2.2)
def RK (n : Int) (ch : Int → Int) (K : TkT) (N : Int) (B : BkT) (σs τs : St) (W : Int64) (q : Int) (so : Int → Int) (kc km : Int) (σ τ : St) : Prop := AtC K N kc σ ∧ AtM n ch K N km τ ∧ FrK σs σ ∧ FrL τs τ ∧ KdC (addB B W q so) (σ.1 15) (σ.2 16) (σ.1 17) (σ.1 18) ∧ KdM (addB B W q so) (I (Bkn B + 1)) (τ.2 17) (τ.1 18) (τ.1 19) (τ.1 20) ∧ τ.1 0 36 = I (Bkn B) ∧ σ.1 1 4 = I 0 ∧ 0 ≤ q ∧ q ≤ 5 ∧ ∀ p, 0 ≤ p → p < q → -26 ≤ so p ∧ so p < 26
def KEn (F : Nat) (n : Int) (ch : Int → Int) (K : TkT) (N : Int) (B : BkT) : Prop := TxA n ch ∧ Tks n ch K N ∧ 10000 ≤ F ∧ KdV B ∧ Bkn B < 16
section KND
variable {F : Nat} {n : Int} {ch : Int → Int} {K : TkT} {N : Int} {B : BkT} {σs τs : St} {W : Int64} {q : Int} {so : Int → Int} {k kc km : Int} {σ τ : St}
theorem rk_adv (E : KEn F n ch K N B) (h : RK n ch K N B σs τs W q so kc km σ τ) : ∃ g, f_X9_advance σ = some g ∧ FrV σ g ∧ RK n ch K N B σs τs W q so (nx N kc) km g τ := by
  obtain ⟨h1, h2, h3, h4, h5, h6, h7, h8, h9⟩ := h
  have t := E.2.1
  have tn := E.1.2.1
  obtain ⟨g, g1, g2, g3⟩ := c_adv h1.1 t.1 (by have := t.2.1; omega) (by have := h1.2.1; omega) h1.2.2.1 h1.2.2.2.1
  refine ⟨g, g1, g2, g3, h2, frk_tr h3 (frk_v g2), h4, ?_, h6, h7, by rw [g2.1 1 (by omega)]; exact h8, h9⟩
  rw [g2.1 15 (by omega), g2.1 17 (by omega), g2.1 18 (by omega), g2.2.2.1 16 (by omega)]
  exact h5
theorem rk_take (E : KEn F n ch K N B) (h : RK n ch K N B σs τs W q so kc km σ τ) : ∃ g, f_X12_take F τ = some g ∧ FrT τ g ∧ RK n ch K N B σs τs W q so kc (nx N km) σ g := by
  obtain ⟨h1, h2, h3, h4, h5, h6, h7, h8, h9⟩ := h
  obtain ⟨g, g1, g2, g3⟩ := m_take_nx E.1 E.2.2.1 E.2.1 h2
  refine ⟨g, g1, g2, h1, g3, h3, frl_tr h4 (frl_t g2), h5, ?_, ?_, h8, h9⟩
  · rw [g2.1 18 (by omega), g2.1 19 (by omega), g2.1 20 (by omega), g2.2.2.1 17 (by omega)]
    exact h6
  · rw [g2.2.1 36 (by omega) (by omega) (by omega) (by omega) (by omega)]; exact h7
theorem tk_word (E : KEn F n ch K N B) {k : Int} (k0 : 0 ≤ k) (k1 : k < N) (h2 : kT K k = 2) : Tok ch (kS K k) 2 (kW K k) (kE K k) := by
  obtain ⟨N1, N2, hT, hL, _⟩ := E.2.1
  by_cases e : k = N - 1
  · rw [e, hL.1] at h2
    exact absurd h2 (by decide)
  · have := (hT k k0 (by omega)).2.2.2.2
    rw [h2] at this
    exact this
/-- one port -/
theorem port_ok (E : KEn F n ch K N B) (h : RK n ch K N B σs τs W q so k k σ τ) : (∃ σ' τ', f_X6_readPort (I q) σ = some σ' ∧ f_X12_readPort F τ = some (I 0, τ') ∧ FltK σs τs σ' τ') ∨ (∃ so' k' σ' τ', k < k' ∧ q < 5 ∧ f_X6_readPort (I q) σ = some σ' ∧ f_X12_readPort F τ = some (I 1, τ') ∧ RK n ch K N B σs τs W (q + 1) so' k' k' σ' τ') := by
  have hK := E.2.1
  have hV := E.2.2.2.1
  have kn := E.2.2.2.2
  have kn0 := hV.1
  have h0 := h
  obtain ⟨h1, h2, h3, h4, h5, h6, h7, h8, q0, q5, hso⟩ := h0
  have k0 := h1.2.1
  have k1 := h1.2.2.1
  have tt := tks_T hK k0 k1
  have tb := tt_b tt.1
  have mt := mty_c tt.1
  have sT : σ.1 9 7 = I (kT K k) := h1.2.2.2.2.1
  have sW : σ.2 9 9 = kW K k := h1.2.2.2.2.2.2
  have mT : τ.1 0 29 = I (mty (kT K k)) := h2.2.2.2.1
  have mS : τ.1 0 30 = I (kS K k) := h2.2.2.2.2.1
  have i16 : inb (I (Bkn B)) 16 = true := (I_inb (by omega) (by omega)).mpr ⟨by omega, by omega⟩
  have xn : ix (I (Bkn B)) = (Bkn B).toNat := I_ix (by omega) (by omega)
  have bk : Bkn (addB B W q so) = Bkn B + 1 := rfl
  have bp : Bpt (addB B W q so) (Bkn B) = q := if_pos rfl
  have c17 : σ.1 17 (Bkn B).toNat = I q := by rw [h5.2.2.1 (Bkn B) kn0 (by rw [bk]; omega), bp]
  have m18 : τ.1 18 (Bkn B).toNat = I q := by rw [h6.2.2.1 (Bkn B) kn0 (by rw [bk]; omega), bp]
  by_cases hl : kT K k = 2 ∧ kE K k - kS K k = 1
  · have hk2 := tt.2.1 (by rw [hl.1]; decide)
    have tl := tok_letter E.1.2.2.1 (tk_word E k0 k1 hl.1)
    obtain ⟨c, c0, c25, ec1, ec2⟩ := tl.2.1 hl.2
    have cl : (σ.1 9 7 = (2 : Int32)) ∧ ((0 ≤ lg_cmp (kW K k - (97 : Int64)) (0 : Int64)) ∧ ¬ (0 < lg_cmp (kW K k - (97 : Int64)) (25 : Int64))) := ⟨by rw [sT, hl.1]; rfl, tl.1.mp hl.2⟩
    clear tl
    have mw := h2.2.2.2.2.2.2.1 (Or.inl hl.1)
    have ml : (τ.1 0 29 = (1 : Int32)) ∧ (τ.1 0 33 = (1 : Int32)) := ⟨by rw [mT, mt.1.mpr hl.1]; rfl, by rw [mw.2, hl.2]; rfl⟩
    by_cases hq : q = 5
    · left
      refine ⟨_, _, ?_, ?_, fltk_go (z := kS K k) (c := 4) h3 h4 (by omega) (by omega)⟩
      · unfold f_X6_readPort
        rw [sW, Option.bind_some, if_pos cl, if_pos (by rw [hq]; exact Int32.le_refl _), show (4 : Int32) = I 4 from rfl, c_refuse h1]
        rfl
      · unfold f_X12_readPort
        rw [if_pos ml, h7, if_pos i16, xn, m18, Option.bind_some, if_pos (by rw [hq]; rfl), mS]
        rfl
    · have nq : ¬ ((5 : Int32) ≤ I q) := fun w => by have := (Ile' (5) (5) (by omega) (by omega) (by omega) (by omega)).mp w; omega
      have nq' : ¬ (I q = (5 : Int32)) := fun w => by have := (Ieq (5) (5) (by omega) (by omega) (by omega) (by omega)).mp w; omega
      obtain ⟨σ1, A1, A2, A3⟩ := rk_adv E h
      obtain ⟨τ1, B1, B2, B3⟩ := rk_take E A3
      rw [hk2.1] at A3 B3
      have sT1 : σ1.1 9 7 = I (kT K (k + 1)) := B3.1.2.2.2.2.1
      have tt1 := tks_T hK B3.1.2.1 B3.1.2.2.1
      have tb1 := tt_b tt1.1
      have e43 := m_sg hK B3.2.1 (c := 43) (by decide)
      have e45 := m_sg hK B3.2.1 (c := 45) (by decide)
      by_cases hs : kT K (k + 1) = 43 ∨ kT K (k + 1) = 45
      · right
        have hk3 := tt1.2.1 (by rcases hs with w | w <;> (rw [w]; decide))
        obtain ⟨u, hu⟩ : ∃ u : Int, u = if kT K (k + 1) = 43 then c else -1 - c := ⟨_, rfl⟩
        have u1 : -26 ≤ u ∧ u < 26 := by rw [hu]; split <;> omega
        have cs : (σ1.1 9 7 = (43 : Int32)) ∨ (σ1.1 9 7 = (45 : Int32)) := by
          rw [sT1]
          rcases hs with w | w
          · left; rw [w]; rfl
          · right; rw [w]; rfl
        have ct : (if σ1.1 9 7 = (43 : Int32) then some (I c) else some (I c ^^^ (-1 : Int32))) = some (I u) := by
          rw [sT1, hu]
          by_cases w : kT K (k + 1) = 43
          · rw [if_pos (by rw [w]; rfl), if_pos w]
          · rw [if_neg (fun x => w ((Ieq (43) (43) (by omega) (by omega) (by omega) (by omega)).mp x)), if_neg w, I_not]
        -- addPort
        have s15 : σ1.1 15 3 = I (Bkn B + 1) := B3.2.2.2.2.1.1
        have s17 : σ1.1 17 (Bkn B).toNat = I q := by rw [A2.1 17 (by omega)]; exact c17
        have ap : f_X3_addPort (I u) σ1 = some (seti (seti σ1 18 (5 * Bkn B + q).toNat (I u)) 17 (Bkn B).toNat (I (q + 1))) := by
          have s17' : (seti σ1 18 (5 * Bkn B + q).toNat (I u)).1 17 (Bkn B).toNat = I q := by rw [seti_r (by omega)]; exact s17
          unfold f_X3_addPort f_X3_has
          rw [s15]
          have e1 : I (Bkn B + 1) - (1 : Int32) = I (Bkn B) := by rw [show (1 : Int32) = I 1 from rfl, I_sub, show Bkn B + 1 - 1 = Bkn B by omega]
          rw [e1]
          have e2 : Bkn B * 5 + q = 5 * Bkn B + q := by omega
          simp (maxSteps := 4000000) (disch := omega) only [I_lits, nz, nc, if_pos, if_neg, if_true, if_false, Option.bind_some, true_and, and_true, and_self, or_true, true_or, or_false, false_or, not_true_eq_false, not_false_eq_true, false_and, and_false, Bool.false_eq_true, decide_true, decide_false, eq_self, s17, s17', e2]
        have hR : ∃ so', RK n ch K N B σs τs W (q + 1) so' (k + 1) (k + 1) (seti (seti σ1 18 (5 * Bkn B + q).toNat (I u)) 17 (Bkn B).toNat (I (q + 1))) (seti (seti (seti τ1 19 (5 * Bkn B + q).toNat (I c)) 20 (5 * Bkn B + q).toNat (I (if kT K (k + 1) = 43 then 1 else 0))) 18 (Bkn B).toNat (I (q + 1))) := by
          obtain ⟨r1, r2, r3, r4, r5, r6, r7, r8, r9⟩ := B3
          refine ⟨fun p => if p = q then u else so p, atc_fr r1 (fun c w => by rw [seti_r (by omega), seti_r (by omega)]) (fun c w => rfl), atm_fr r2 (by rw [seti_r (by omega), seti_r (by omega), seti_r (by omega)]) (fun j w => by rw [seti_r (by omega), seti_r (by omega), seti_r (by omega)]) rfl, frk_tr r3 (frk_tr (frk_i (by omega)) (frk_i (by omega))), frl_tr r4 (frl_tr (frl_i (by omega)) (frl_tr (frl_i (Or.inr (Or.inl ⟨rfl, by split; exact Or.inr rfl; exact Or.inl rfl⟩))) (frl_i (by omega)))), ⟨?_, fun a x y => ?_, fun a x y => ?_, fun a p x y z w => ?_⟩, ⟨rfl, fun a x y => ?_, fun a x y => ?_, fun a p x y z w => ?_⟩, ?_, ?_, by omega, by omega, fun p x y => ?_⟩
          · rw [seti_r (by omega), seti_r (by omega)]; exact r5.1
          · exact r5.2.1 a x y
          · show _ = I (if a = Bkn B then q + 1 else Bpt B a)
            rw [seti1]
            by_cases w : a = Bkn B
            · rw [if_pos ⟨rfl, by rw [w]⟩, if_pos w]
            · rw [if_neg (by omega), if_neg w, seti_r (by omega), r5.2.2.1 a x y]
              show I (if a = Bkn B then q else Bpt B a) = _
              rw [if_neg w]
          · have w' : p < if a = Bkn B then q + 1 else Bpt B a := w
            have y' : a < Bkn B + 1 := y
            show _ = I (if 5 * Bkn B ≤ 5 * a + p then (if 5 * a + p - 5 * Bkn B = q then u else so (5 * a + p - 5 * Bkn B)) else Bso B (5 * a + p))
            have hp5 : p < 5 := by
              by_cases e : a = Bkn B
              · rw [if_pos e] at w'; omega
              · rw [if_neg e] at w'
                have := hV.2.2.1 a x (by omega)
                omega
            rw [seti_r (by omega), seti1]
            by_cases e : 5 * a + p = 5 * Bkn B + q
            · rw [if_pos ⟨rfl, by rw [e]⟩, if_pos (by omega), if_pos (by omega)]
            · rw [if_neg (by omega)]
              have ww : p < Bpt (addB B W q so) a := by
                show p < if a = Bkn B then q else Bpt B a
                by_cases e2 : a = Bkn B
                · rw [if_pos e2]; rw [if_pos e2] at w'; omega
                · rw [if_neg e2]; rw [if_neg e2] at w'; omega
              rw [r5.2.2.2 a p x y z ww]
              show I (if 5 * Bkn B ≤ 5 * a + p then so (5 * a + p - 5 * Bkn B) else Bso B (5 * a + p)) = _
              by_cases e2 : 5 * Bkn B ≤ 5 * a + p
              · rw [if_pos e2, if_pos e2, if_neg (by omega)]
              · rw [if_neg e2, if_neg e2]
          · exact r6.2.1 a x y
          · show _ = I (if a = Bkn B then q + 1 else Bpt B a)
            rw [seti1]
            by_cases w : a = Bkn B
            · rw [if_pos ⟨rfl, by rw [w]⟩, if_pos w]
            · rw [if_neg (by omega), if_neg w, seti_r (by omega), seti_r (by omega), r6.2.2.1 a x y]
              show I (if a = Bkn B then q else Bpt B a) = _
              rw [if_neg w]
          · have w' : p < if a = Bkn B then q + 1 else Bpt B a := w
            have y' : a < Bkn B + 1 := y
            have eb : Bso (addB B W (q + 1) (fun p => if p = q then u else so p)) (5 * a + p) = if 5 * Bkn B ≤ 5 * a + p then (if 5 * a + p - 5 * Bkn B = q then u else so (5 * a + p - 5 * Bkn B)) else Bso B (5 * a + p) := rfl
            have hp5 : p < 5 := by
              by_cases e : a = Bkn B
              · rw [if_pos e] at w'; omega
              · rw [if_neg e] at w'
                have := hV.2.2.1 a x (by omega)
                omega
            rw [eb]
            by_cases e : 5 * a + p = 5 * Bkn B + q
            · have g1 : (seti (seti (seti τ1 19 (5 * Bkn B + q).toNat (I c)) 20 (5 * Bkn B + q).toNat (I (if kT K (k + 1) = 43 then 1 else 0))) 18 (Bkn B).toNat (I (q + 1))).1 19 (5 * a + p).toNat = I c := by
                rw [seti_r (by omega), seti_r (by omega), seti1, if_pos ⟨rfl, by rw [e]⟩]
              have g2 : (seti (seti (seti τ1 19 (5 * Bkn B + q).toNat (I c)) 20 (5 * Bkn B + q).toNat (I (if kT K (k + 1) = 43 then 1 else 0))) 18 (Bkn B).toNat (I (q + 1))).1 20 (5 * a + p).toNat = I (if kT K (k + 1) = 43 then 1 else 0) := by
                rw [seti_r (by omega), seti1, if_pos ⟨rfl, by rw [e]⟩]
              have g3 : (if 5 * Bkn B ≤ 5 * a + p then (if 5 * a + p - 5 * Bkn B = q then u else so (5 * a + p - 5 * Bkn B)) else Bso B (5 * a + p)) = u := by
                rw [if_pos (by omega), if_pos (by omega)]
              rw [g1, g2, g3, hu]
              by_cases e3 : kT K (k + 1) = 43
              · rw [if_pos e3, if_pos e3, if_pos c0, if_pos c0]; exact ⟨rfl, rfl⟩
              · rw [if_neg e3, if_neg e3, if_neg (by omega), if_neg (by omega), show -1 - (-1 - c) = c by omega]; exact ⟨rfl, rfl⟩
            · have g1 : (seti (seti (seti τ1 19 (5 * Bkn B + q).toNat (I c)) 20 (5 * Bkn B + q).toNat (I (if kT K (k + 1) = 43 then 1 else 0))) 18 (Bkn B).toNat (I (q + 1))).1 19 (5 * a + p).toNat = τ1.1 19 (5 * a + p).toNat := by
                rw [seti_r (by omega), seti_r (by omega), seti1, if_neg (by omega)]
              have g2 : (seti (seti (seti τ1 19 (5 * Bkn B + q).toNat (I c)) 20 (5 * Bkn B + q).toNat (I (if kT K (k + 1) = 43 then 1 else 0))) 18 (Bkn B).toNat (I (q + 1))).1 20 (5 * a + p).toNat = τ1.1 20 (5 * a + p).toNat := by
                rw [seti_r (by omega), seti1, if_neg (by omega), seti_r (by omega)]
              rw [g1, g2]
              have ww : p < Bpt (addB B W q so) a := by
                show p < if a = Bkn B then q else Bpt B a
                by_cases e2 : a = Bkn B
                · rw [if_pos e2]; rw [if_pos e2] at w'; omega
                · rw [if_neg e2]; rw [if_neg e2] at w'; omega
              have := r6.2.2.2 a p x y z ww
              have eb2 : Bso (addB B W q so) (5 * a + p) = if 5 * Bkn B ≤ 5 * a + p then so (5 * a + p - 5 * Bkn B) else Bso B (5 * a + p) := rfl
              rw [eb2] at this
              by_cases e2 : 5 * Bkn B ≤ 5 * a + p
              · rw [if_pos e2] at this
                have e4 : ¬ (5 * a + p - 5 * Bkn B = q) := by omega
                rw [if_pos e2, if_neg e4]
                exact this
              · rw [if_neg e2] at this
                rw [if_neg e2]
                exact this
          · rw [seti_r (by omega), seti_r (by omega), seti_r (by omega)]; exact r7
          · rw [seti_r (by omega), seti_r (by omega)]; exact r8
          · show -26 ≤ (if p = q then u else so p) ∧ (if p = q then u else so p) < 26
            by_cases e : p = q
            · rw [if_pos e]; exact u1
            · rw [if_neg e]; exact hso p x (by omega)
        obtain ⟨so', hR⟩ := hR
        obtain ⟨σ2, C1, C2, C3⟩ := rk_adv E hR
        obtain ⟨τ2, D1, D2, D3⟩ := rk_take E C3
        rw [hk3.1] at D3
        refine ⟨so', k + 1 + 1, σ2, τ2, by omega, by omega, ?_, ?_, D3⟩
        · unfold f_X6_readPort
          rw [sW, Option.bind_some, if_pos cl, if_neg nq, A1, Option.bind_some, if_pos cs, ec1, ct, Option.bind_some, ap, Option.bind_some, C1]
          rfl
        · unfold f_X12_readPort
          have g36 : τ1.1 0 36 = I (Bkn B) := B3.2.2.2.2.2.2.1
          have g18 : τ1.1 18 (Bkn B).toNat = I q := by rw [B2.1 18 (by omega)]; exact m18
          have ns : ¬ ((I (if kT K (k + 1) = 43 then 1 else 0) = 0) ∧ (f_X12_isSign (45 : Int32) τ1 = 0)) := by
            rw [show (45 : Int32) = I 45 from rfl, e45]
            rintro ⟨w1, w2⟩
            rcases hs with w | w
            · rw [if_pos w] at w1; exact absurd w1 (by decide)
            · rw [if_pos w] at w2; exact absurd w2 (by decide)
          have m34 : τ1.1 0 34 = I (kT K (k + 1)) := B3.2.1.2.2.2.2.2.2.2 ((mty3 tt1.1).mpr (by rcases hs with w | w <;> (rw [w]; decide)))
          have e5 : (5 : Int32) * I (Bkn B) + I q = I (5 * Bkn B + q) := by rw [show (5 : Int32) = I 5 from rfl, I_mul, I_add]
          have i80 : inb (I (5 * Bkn B + q)) 80 = true := (I_inb (by omega) (by omega)).mpr ⟨by omega, by omega⟩
          have x80 : ix (I (5 * Bkn B + q)) = (5 * Bkn B + q).toNat := I_ix (by omega) (by omega)
          have f1 : (seti τ1 19 (5 * Bkn B + q).toNat (I c)).1 0 34 = I (kT K (k + 1)) := by rw [seti_r (by omega)]; exact m34
          have f2 : (seti τ1 19 (5 * Bkn B + q).toNat (I c)).1 0 36 = I (Bkn B) := by rw [seti_r (by omega)]; exact g36
          have ct2 : (if I (kT K (k + 1)) = (43 : Int32) then some (1 : Int32) else some (0 : Int32)) = some (I (if kT K (k + 1) = 43 then 1 else 0)) := by
            by_cases w : kT K (k + 1) = 43
            · rw [if_pos (by rw [w]; rfl), if_pos w]; rfl
            · rw [if_neg (fun x => w ((Ieq (43) (43) (by omega) (by omega) (by omega) (by omega)).mp x)), if_neg w]; rfl
          have b01 : I (if kT K (k + 1) = 43 then 1 else 0) = 0 ∨ I (if kT K (k + 1) = 43 then 1 else 0) = 1 := by
            split
            · exact Or.inr rfl
            · exact Or.inl rfl
          have f3 : (seti (seti τ1 19 (5 * Bkn B + q).toNat (I c)) 20 (5 * Bkn B + q).toNat (I (if kT K (k + 1) = 43 then 1 else 0))).1 0 36 = I (Bkn B) := by rw [seti_r (by omega)]; exact f2
          have f4 : (seti (seti τ1 19 (5 * Bkn B + q).toNat (I c)) 20 (5 * Bkn B + q).toNat (I (if kT K (k + 1) = 43 then 1 else 0))).1 18 (Bkn B).toNat = I q := by rw [seti_r (by omega), seti_r (by omega)]; exact g18
          rw [if_pos ml, h7, if_pos i16, xn, m18, Option.bind_some, if_neg nq', mw.1, ec2, Option.bind_some, B1, Option.bind_some, show f_X12_isSign (43 : Int32) τ1 = I (if kT K (k + 1) = 43 then 1 else 0) from e43, Option.bind_some, if_neg ns, g36, e5, if_pos i80, x80, Option.bind_some, f1, ct2, Option.bind_some, f2, e5, if_pos i80, if_pos b01, x80, Option.bind_some, f3, Option.bind_some, if_pos i16, if_pos i16, xn, f4, show I q + (1 : Int32) = I (q + 1) by rw [show (1 : Int32) = I 1 from rfl, I_add], Option.bind_some, D1]
          rfl
      · left
        refine ⟨_, _, ?_, ?_, fltk_go (z := kS K (k + 1)) B3.2.2.1 B3.2.2.2.1 (wc_b (kT K (k + 1))).1 (wc_b (kT K (k + 1))).2⟩
        · unfold f_X6_readPort
          rw [sW, Option.bind_some, if_pos cl, if_neg nq, A1, Option.bind_some, if_neg (by
            rw [sT1]
            rintro (w | w)
            · exact hs (Or.inl ((Ieq (43) (43) (by omega) (by omega) (by omega) (by omega)).mp w))
            · exact hs (Or.inr ((Ieq (45) (45) (by omega) (by omega) (by omega) (by omega)).mp w))), c_wrong hK B3.1]
          rfl
        · unfold f_X12_readPort
          rw [if_pos ml, h7, if_pos i16, xn, m18, Option.bind_some, if_neg nq', Option.bind_some, B1, Option.bind_some, Option.bind_some, if_pos ⟨by rw [show (43 : Int32) = I 43 from rfl, e43, if_neg (fun w => hs (Or.inl w))]; rfl, by rw [show (45 : Int32) = I 45 from rfl, e45, if_neg (fun w => hs (Or.inr w))]; rfl⟩, m_wrong hK B3.2.1]
          rfl
  · left
    refine ⟨_, _, ?_, ?_, fltk_go (z := kS K k) h3 h4 (wc_b (kT K k)).1 (wc_b (kT K k)).2⟩
    · unfold f_X6_readPort
      rw [sW, Option.bind_some, if_neg (by
        rintro ⟨w1, w2⟩
        rw [sT] at w1
        have w3 := (Ieq (2) (2) (by omega) (by omega) (by omega) (by omega)).mp w1
        exact hl ⟨w3, (tok_letter E.1.2.2.1 (tk_word E k0 k1 w3)).1.mpr w2⟩), c_wrong hK h1]
      rfl
    · unfold f_X12_readPort
      rw [if_neg (by
        rintro ⟨w1, w2⟩
        rw [mT] at w1
        have w3 := mt.1.mp ((Ieq (1) (1) (by omega) (by omega) (by omega) (by omega)).mp w1)
        have w4 := (h2.2.2.2.2.2.2.1 (Or.inl w3)).2
        have w5 := (tok_letter E.1.2.2.1 (tk_word E k0 k1 w3)).2.2
        rw [w4] at w2
        exact hl ⟨w3, (Ieq (1) (1) (by omega) (by omega) (by omega) (by omega)).mp w2⟩), m_wrong hK h2]
      rfl
end KND
