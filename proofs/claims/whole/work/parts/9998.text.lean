/-! the whole text -/
section TXL
variable {F : Nat} {n : Int} {ch : Int → Int} {K : TkT} {N : Int} {σ0 τ0 : St}
theorem fltg_ne {σ0 τ0 σ τ : St} (h : FltG σ0 τ0 σ τ) : ¬ (σ.1 1 4 = 0) := by
  obtain ⟨h1, h2, c, z, h3, h4, h5, h6, h7, h8⟩ := h
  rw [h5]
  intro q
  have := (Ieq (0) (0) (by omega) (by omega) (by omega) (by omega)).mp q
  omega
theorem text_L (hA : TxA n ch) (hK : Tks n ch K N) (hF : 10000 ≤ F) : ∀ (m : Nat) (i k : Int) (B : BkT) (σ τ : St), 0 ≤ i → i ≤ k → N - k < m → RdS n ch K N σ0 τ0 B k σ τ → (∃ σ' τ', f_X6_readText_L31 F m (I i) σ = some σ' ∧ f_X12_readBook_L4 F m τ = some (I 0, τ') ∧ FltG σ0 τ0 σ' τ') ∨ (∃ B' k' σ' τ', f_X6_readText_L31 F m (I i) σ = some σ' ∧ f_X12_readBook_L4 F m τ = some (I 1, τ') ∧ RdS n ch K N σ0 τ0 B' k' σ' τ') := by
  have n40 := hA.2.1
  have tN1 := hK.2.1
  intro m
  induction m with
  | zero => intro i k B σ τ _ _ hf h; have := h.1.2.2.1; omega
  | succ m ih =>
    intro i k B σ τ i0 ik hf h
    have k0 := h.1.2.1
    have k1 := h.1.2.2.1
    have tt := tks_T hK k0 k1
    have tb := tt_b tt.1
    have mt := mty_c tt.1
    have sT : σ.1 9 7 = I (kT K k) := h.1.2.2.2.2.1
    have sW : σ.2 9 9 = kW K k := h.1.2.2.2.2.2.2
    have mT : τ.1 0 29 = I (mty (kT K k)) := h.2.1.2.2.2.1
    have f0 : σ.1 1 4 = (0 : Int32) := h.2.2.2.2.1
    by_cases t1 : kT K k = 1
    · right
      refine ⟨B, k, σ, τ, ?_, ?_, h⟩
      · rw [f_X6_readText_L31, if_neg (fun q => q.2.2 (by rw [sT, t1]; rfl))]
      · rw [f_X12_readBook_L4, if_pos (show τ.1 0 29 = (5 : Int32) by rw [mT, mt.2.2.2.2.1.mpr t1]; rfl)]
        rfl
    · have hk2 := tt.2.1 t1
      obtain ⟨m, rfl⟩ : ∃ m', m = m' + 1 := ⟨m - 1, by omega⟩
      have ei : I i + (1 : Int32) = I (i + 1) := by rw [show (1 : Int32) = I 1 from rfl, I_add]
      have cc : (I i < (4000 : Int32)) ∧ ((σ.1 1 4 = 0) ∧ ¬ (σ.1 9 7 = (1 : Int32))) := ⟨(Ilt (4000) (4000) (by omega) (by omega) (by omega) (by omega)).mpr (by omega), f0, fun q => by rw [sT] at q; exact t1 ((Ieq (1) (1) (by omega) (by omega) (by omega) (by omega)).mp q)⟩
      have n5 : ¬ (τ.1 0 29 = (5 : Int32)) := fun q => by rw [mT] at q; exact t1 (mt.2.2.2.2.1.mp ((Ieq (5) (5) (by omega) (by omega) (by omega) (by omega)).mp q))
      have go : ∀ X Y, StO F n ch K N σ0 τ0 k X Y → f_X6_readText_L31 F (m + 1 + 1) (I i) σ = Option.bind X (fun t8 => f_X6_readText_L31 F (m + 1) (I (i + 1)) t8) → f_X12_readBook_L4 F (m + 1 + 1) τ = Option.bind Y (fun t5 => if t5.1 = 0 then some ((0 : Int32), t5.2) else Option.bind (f_X12_take F t5.2) (fun s23 => f_X12_readBook_L4 F (m + 1) s23)) → (∃ σ' τ', f_X6_readText_L31 F (m + 1 + 1) (I i) σ = some σ' ∧ f_X12_readBook_L4 F (m + 1 + 1) τ = some (I 0, τ') ∧ FltG σ0 τ0 σ' τ') ∨ (∃ B' k' σ' τ', f_X6_readText_L31 F (m + 1 + 1) (I i) σ = some σ' ∧ f_X12_readBook_L4 F (m + 1 + 1) τ = some (I 1, τ') ∧ RdS n ch K N σ0 τ0 B' k' σ' τ') := by
        intro X Y hs hX hY
        rcases hs with ⟨σ', τ', a1, a2, a3⟩ | ⟨B', k', σ', τ', τ'', a0, a1, a2, a3, a4⟩
        · left
          refine ⟨σ', τ', ?_, ?_, a3⟩
          · rw [hX, a1, Option.bind_some, f_X6_readText_L31, if_neg (fun q => fltg_ne a3 q.2.1)]
          · rw [hY, a2, Option.bind_some, if_pos (show I 0 = (0 : Int32) from rfl)]; rfl
        · have hh := ih (i + 1) k' B' σ' τ'' (by omega) (by omega) (by omega) a4
          rw [hX, a1, Option.bind_some, hY, a2, Option.bind_some, if_neg (show ¬ (I 1 = (0 : Int32)) by decide), show f_X12_take F (I 1, τ').2 = _ from a3, Option.bind_some]
          exact hh
      have cw : ∀ w, f_X6_isWord w σ = I (if kT K k = 2 ∧ kW K k = w then 1 else 0) := fun w => by
        unfold f_X6_isWord
        rw [sT, sW]
        by_cases q : kT K k = 2 ∧ kW K k = w
        · rw [if_pos ⟨by rw [q.1]; rfl, lg_cmp0.mpr q.2⟩, if_pos q]; rfl
        · rw [if_neg (fun x => q ⟨(Ieq (2) (2) (by omega) (by omega) (by omega) (by omega)).mp x.1, lg_cmp0.mp x.2⟩), if_neg q]; rfl
      have mw : ∀ w, ((if τ.1 0 29 = (1 : Int32) then some (1 : Int32) else some (0 : Int32)) = some (I (if kT K k = 2 then 1 else 0))) ∧ (((I (if kT K k = 2 then 1 else 0) = 0) ∨ ¬ (lg_cmp (τ.2 0 32) w = 0)) ↔ ¬ (kT K k = 2 ∧ kW K k = w)) := fun w => by
        by_cases q : kT K k = 2
        · have e1 : τ.1 0 29 = (1 : Int32) := by rw [mT, mt.1.mpr q]; rfl
          have e2 := (h.2.1.2.2.2.2.2.2.1 (Or.inl q)).1
          rw [if_pos e1, if_pos q, e2, lg_cmp0]
          refine ⟨rfl, fun x y => ?_, fun x => Or.inr (fun y => x ⟨q, y⟩)⟩
          rcases x with x | x
          · exact absurd x (by decide)
          · exact x y.2
        · have e1 : ¬ (τ.1 0 29 = (1 : Int32)) := fun x => by rw [mT] at x; exact q (mt.1.mp ((Ieq (1) (1) (by omega) (by omega) (by omega) (by omega)).mp x))
          rw [if_neg e1, if_neg q]
          exact ⟨rfl, fun _ y => q y.1, fun _ => Or.inl rfl⟩
      have cst : f_X6_readText_L31 F (m + 1 + 1) (I i) σ = Option.bind (if kT K k = 2 ∧ kW K k = 1802071652 then f_X6_readKind F σ else if kT K k = 2 ∧ kW K k = 1920298085 then f_X6_readRule F σ else if kT K k = 2 ∧ kW K k = 7234932 then f_X6_readNet F σ else f_X6_refuseToken σ) (fun t8 => f_X6_readText_L31 F (m + 1) (I (i + 1)) t8) := by
        rw [f_X6_readText_L31, if_pos cc, cw, Option.bind_some, ei]
        congr 1
        by_cases q1 : kT K k = 2 ∧ kW K k = 1802071652
        · rw [if_pos q1, if_neg (show ¬ (I 1 = (0 : Int32)) by decide), if_pos q1]
          cases f_X6_readKind F σ <;> rfl
        · rw [if_neg q1, if_pos (show I 0 = (0 : Int32) from rfl), cw, Option.bind_some, if_neg q1]
          by_cases q2 : kT K k = 2 ∧ kW K k = 1920298085
          · rw [if_pos q2, if_neg (show ¬ (I 1 = (0 : Int32)) by decide), if_pos q2]
            cases f_X6_readRule F σ <;> rfl
          · rw [if_neg q2, if_pos (show I 0 = (0 : Int32) from rfl), cw, Option.bind_some, if_neg q2]
            by_cases q3 : kT K k = 2 ∧ kW K k = 7234932
            · rw [if_pos q3, if_neg (show ¬ (I 1 = (0 : Int32)) by decide), if_pos q3]
              cases f_X6_readNet F σ <;> rfl
            · rw [if_neg q3, if_pos (show I 0 = (0 : Int32) from rfl), if_neg q3]
              cases f_X6_refuseToken σ <;> rfl
      have mst : f_X12_readBook_L4 F (m + 1 + 1) τ = Option.bind (if kT K k = 2 ∧ kW K k = 1802071652 then f_X12_readKind F τ else if kT K k = 2 ∧ kW K k = 1920298085 then f_X12_readRule F τ else if kT K k = 2 ∧ kW K k = 7234932 then f_X12_readNet F τ else f_X12_wrong τ) (fun t5 => if t5.1 = 0 then some ((0 : Int32), t5.2) else Option.bind (f_X12_take F t5.2) (fun s23 => f_X12_readBook_L4 F (m + 1) s23)) := by
        rw [f_X12_readBook_L4, if_neg n5, (mw 0).1, Option.bind_some]
        congr 1
        by_cases q1 : kT K k = 2 ∧ kW K k = 1802071652
        · rw [if_neg (fun x => ((mw 1802071652).2.mp x) q1), if_pos q1]
          cases f_X12_readKind F τ <;> rfl
        · rw [if_pos ((mw 1802071652).2.mpr q1), if_neg q1]
          by_cases q2 : kT K k = 2 ∧ kW K k = 1920298085
          · rw [if_neg (fun x => ((mw 1920298085).2.mp x) q2), if_pos q2]
            cases f_X12_readRule F τ <;> rfl
          · rw [if_pos ((mw 1920298085).2.mpr q2), if_neg q2]
            by_cases q3 : kT K k = 2 ∧ kW K k = 7234932
            · rw [if_neg (fun x => ((mw 7234932).2.mp x) q3), if_pos q3]
              cases f_X12_readNet F τ <;> rfl
            · rw [if_pos ((mw 7234932).2.mpr q3), if_neg q3]
              cases f_X12_wrong τ <;> rfl
      refine go _ _ ?_ cst mst
      by_cases q1 : kT K k = 2 ∧ kW K k = 1802071652
      · rw [if_pos q1, if_pos q1]; exact stmt_kind hA hK hF h t1
      · rw [if_neg q1, if_neg q1]
        by_cases q2 : kT K k = 2 ∧ kW K k = 1920298085
        · rw [if_pos q2, if_pos q2]; exact stmt_rule hA hK hF h t1
        · rw [if_neg q2, if_neg q2]
          by_cases q3 : kT K k = 2 ∧ kW K k = 7234932
          · rw [if_pos q3, if_pos q3]; exact stmt_net hA hK hF h t1
          · rw [if_neg q3, if_neg q3]
            left
            exact ⟨_, _, c_wrong hK h.1, m_wrong hK h.2.1, fltg_go (z := kS K k) h.2.2.1 h.2.2.2.1 (wc_b (kT K k)).1 (wc_b (kT K k)).2⟩
end TXL
/-! the start of a text -/
def B00 : BkT := (0, fun _ => 0, fun _ => 0, fun _ => 0, 0, fun _ => -1, fun _ => 0, fun _ => 0, fun _ => 0, fun _ _ => 0, fun _ => 0)
def N00 : NtT := (fun _ => -1, fun _ => 0, 0, 0)
theorem n00_l (B : BkT) (x : Int) : ¬ NLiv B N00 x := by
  have e1 : ∀ a, Nk N00 a = -1 := fun _ => rfl
  have e2 : Ne N00 = 0 := rfl
  unfold NLiv
  rw [e1, e2]
  rintro (q | q) <;> omega
theorem n00_c : Ncn N00 = 0 := by
  unfold Ncn
  rw [← cnt_top 400 0 (by omega) (fun i a b => decide_eq_false (by
    show ¬ (0 ≤ (-1 : Int))
    omega))]
  rfl
theorem n00_v (B : BkT) (h : 0 ≤ Bkn B) : NetV B N00 := ⟨Int.le_refl _, by show (0 : Int) ≤ 8; omega, fun n _ _ => ⟨Int.le_refl _, by show (-1 : Int) < Bkn B; omega⟩, fun x hx => absurd hx (n00_l B x)⟩
section T00
variable {F : Nat} {σ τ : St}
theorem bks00 (c15 : σ.1 15 3 = I 0) (c19 : σ.1 19 7 = I 0) (c20 : ∀ j, j < 256 → σ.1 20 j = I (-1)) (m36 : τ.1 0 36 = I 0) (m41 : τ.1 0 41 = I 0) (m21 : ∀ j, j < 256 → τ.1 21 j = I (-1)) : BkS B00 σ τ := by
  have e1 : Bkn B00 = 0 := rfl
  have e2 : Brn B00 = 0 := rfl
  refine ⟨⟨by rw [e1]; omega, by rw [e1]; omega, fun k a b => by rw [e1] at b; omega, fun k p a b => by rw [e1] at b; omega⟩, fun i j a b => by rw [e1] at b; omega, ⟨c15, fun k a b => by rw [e1] at b; omega, fun k a b => by rw [e1] at b; omega, fun k p a b => by rw [e1] at b; omega⟩, ⟨m36, fun k a b => by rw [e1] at b; omega, fun k a b => by rw [e1] at b; omega, fun k p a b => by rw [e1] at b; omega⟩, ⟨by rw [e2]; omega, by rw [e2]; omega, fun a b x y => by rw [e1] at y; omega, fun r a b => by rw [e2] at b; omega, fun r i a b => by rw [e2] at b; omega, fun r t a b => by rw [e2] at b; omega⟩, ⟨c19, fun a b x y => by rw [e1] at y; omega, fun r a b => by rw [e2] at b; omega, fun r i a b => by rw [e2] at b; omega, fun r t a b => by rw [e2] at b; omega, fun r t a b => by rw [e2] at b; omega⟩, ⟨m41, fun a b x y => by rw [e1] at y; omega, fun r a b => by rw [e2] at b; omega, fun r i a b => by rw [e2] at b; omega, fun r t a b => by rw [e2] at b; omega⟩, fun a b a0 a1 b0 b1 => ⟨c20 _ (by omega), m21 _ (by omega)⟩, fun a b _ _ _ _ _ => rfl⟩
theorem nts00 (c13 : σ.1 1 3 = I 0) (c28 : ∀ j, j < 400 → σ.1 28 j = I (-1)) (c27 : ∀ j, 3 ≤ j → j ≤ 6 → σ.1 27 j = I 0) (m48 : τ.1 0 48 = I 0) (m63 : τ.1 0 63 = I 0) (m66 : τ.1 0 66 = I 0) (m68 : τ.1 0 68 = I 0) : NtS B00 σ τ := by
  refine ⟨0, N00, 0, Or.inl rfl, c13, m48, n00_v B00 (Int.le_refl _), ⟨fun n a b => c28 _ (by omega), fun x hx => absurd hx (n00_l _ x), fun x hx => absurd hx (n00_l _ x), by rw [n00_c]; exact c27 3 (by omega) (by omega), c27 4 (by omega) (by omega), c27 5 (by omega) (by omega), 0, by omega, by omega, c27 6 (by omega) (by omega), fun _ _ _ => rfl⟩, ⟨m63, by omega, fun a x y => by omega, fun _ _ _ => rfl, fun x hx => absurd hx (n00_l _ x), fun x hx => absurd hx (n00_l _ x), m66, m68⟩, fun _ _ _ _ => rfl⟩
theorem c_bclear (hF : 10000 ≤ F) (σ : St) : ∃ g, f_X0_clear F σ = some g ∧ g.2 = σ.2 ∧ (∀ c, c ≠ 15 → c ≠ 19 → c ≠ 20 → c ≠ 27 → c ≠ 28 → g.1 c = σ.1 c) ∧ g.1 15 3 = I 0 ∧ g.1 19 7 = I 0 ∧ (∀ j, j < 256 → g.1 20 j = I (-1)) ∧ (∀ j, j < 400 → g.1 28 j = I (-1)) ∧ ∀ j, 3 ≤ j → j ≤ 6 → g.1 27 j = I 0 := by
  obtain ⟨g1, a1, a2, a3, a4⟩ := c_fill (F := F) (σ := seti σ 15 3 (0 : Int32)) (a := 20) (na := 256) (v := (-1 : Int32)) (by omega) hF
  obtain ⟨g2, b1, b2, b3, b4⟩ := c_fill (F := F) (σ := seti g1 19 7 (0 : Int32)) (a := 28) (na := 400) (v := (-1 : Int32)) (by omega) hF
  refine ⟨seti (seti (seti (seti g2 27 3 (0 : Int32)) 27 4 (0 : Int32)) 27 5 (0 : Int32)) 27 6 (0 : Int32), ?_, ?_, fun c x y z w v => ?_, ?_, ?_, fun j x => ?_, fun j x => ?_, fun j x y => ?_⟩
  · unfold f_X0_clear f_X8_clear f_X4_clear
    rw [Option.bind_some, a1, Option.bind_some, Option.bind_some, Option.bind_some, b1]
    rfl
  · rw [seti2, seti2, seti2, seti2, b2, seti2, a2]; rfl
  · rw [seti_r w, seti_r w, seti_r w, seti_r w, b3 c v, seti_r y, a3 c z, seti_r x]
  · rw [seti_r (by omega), seti_r (by omega), seti_r (by omega), seti_r (by omega), b3 15 (by omega), seti_r (by omega), a3 15 (by omega), seti1, if_pos ⟨rfl, rfl⟩]; rfl
  · rw [seti_r (by omega), seti_r (by omega), seti_r (by omega), seti_r (by omega), b3 19 (by omega), seti1, if_pos ⟨rfl, rfl⟩]; rfl
  · rw [seti_r (by omega), seti_r (by omega), seti_r (by omega), seti_r (by omega), b3 20 (by omega), seti_r (by omega), a4 j x]; rfl
  · rw [seti_r (by omega), seti_r (by omega), seti_r (by omega), seti_r (by omega), b4 j x]; rfl
  · have hj : j = 3 ∨ j = 4 ∨ j = 5 ∨ j = 6 := by omega
    rcases hj with e | e | e | e <;> (subst e; simp [seti1]; rfl)
theorem m_fill21 (τ : St) : ∀ (m j : Nat) (g : St), j ≤ 256 → 256 - j < m → g.2 = τ.2 → (∀ c, c ≠ 21 → g.1 c = τ.1 c) → (∀ i, i < j → g.1 21 i = I (-1)) → ∃ g', f_X12_read_L32 F m (I j) g = some g' ∧ g'.2 = τ.2 ∧ (∀ c, c ≠ 21 → g'.1 c = τ.1 c) ∧ ∀ i, i < 256 → g'.1 21 i = I (-1) := by
  intro m
  induction m with
  | zero => intro j g h0 h1; omega
  | succ m ih =>
    intro j g h0 h1 h2 h3 h4
    rw [f_X12_read_L32]
    by_cases e : j = 256
    · rw [if_neg (by rw [e]; exact Int32.lt_irrefl)]
      exact ⟨g, rfl, h2, h3, by rw [← e]; exact h4⟩
    · rw [if_pos ((Ilt (256) (256) (by omega) (by omega) (by omega) (by omega)).mpr (by omega)), if_pos ((I_inb (by omega) (by omega)).mpr ⟨by omega, by omega⟩ : inb (I (j : Int)) 256 = true), show ix (I (j : Int)) = (j : Int).toNat from I_ix (by omega) (by omega), Option.bind_some, show I (j : Int) + (1 : Int32) = I ((j + 1 : Nat) : Int) by rw [show (1 : Int32) = I 1 from rfl, I_add]; rfl]
      refine ih (j + 1) _ (by omega) (by omega) h2 (fun c x => by rw [seti_r x]; exact h3 c x) (fun i x => ?_)
      rw [seti1]
      by_cases w : i = j
      · rw [if_pos ⟨rfl, by omega⟩]; rfl
      · rw [if_neg (by omega)]; exact h4 i (by omega)
end T00
