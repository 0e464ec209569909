section TRM
variable {n : Int} {ch : Int → Int} {K : TkT} {N : Int} {B : BkT} {L : Int} {σ0 τ0 : St} {F : Nat}
theorem c_addAgent {D : DrT} {σ : St} {z : Int} (h : DrC D σ) (h0 : 0 ≤ Dna D) (h1 : Dna D < 200) : f_X1_addAgent (I z) σ = some (I (Dna D), seti (seti σ 4 (Dna D).toNat (I z)) 2 5 (I (Dna D + 1))) := by
  have e1 : (seti σ 4 (Dna D).toNat (I z)).1 2 5 = I (Dna D) := by rw [seti_r (by omega)]; exact h.1
  have e2 : (seti (seti σ 4 (Dna D).toNat (I z)) 2 5 (I (Dna D + 1))).1 2 5 = I (Dna D + 1) := by rw [seti1, if_pos ⟨rfl, rfl⟩]
  unfold f_X1_addAgent
  simp (maxSteps := 4000000) (disch := omega) only [I_lits, nz, nc, if_pos, if_neg, if_true, if_false, Option.bind_some, true_and, and_true, and_self, or_true, true_or, or_false, false_or, not_true_eq_false, not_false_eq_true, false_and, and_false, Bool.false_eq_true, decide_true, decide_false, eq_self, h.1, e1, e2]
  rw [show Dna D + 1 - 1 = Dna D by omega]
theorem nv_new {D : DrT} {x : Int} (h0 : 0 ≤ Dna D) (h1 : 5 * Dna D ≤ x) (h2 : x < 1000) : ¬ Vx B D x := by
  rintro (q | q)
  · omega
  · omega
theorem term_ok (E : EnvH F n ch K N B L σ0 τ0) : ∀ (Df : Nat) (d : Int), 0 ≤ d → d ≤ 12 → 13 - d ≤ Df → TermOK F n ch K N B L σ0 τ0 Df d := by
  have hK := E.2.1
  have hV := E.2.2.2.1
  have n4 := E.1.2.1
  have hF := E.2.2.1
  have tN1 := hK.2.1
  have hL := E.2.2.2.2.2.2.2
  have b16 := hV.2.1
  intro Df
  induction Df with
  | zero => intro d _ _ h; omega
  | succ Df ih =>
    intro d d0 d1 hd k D σ τ h
    have k0 := h.1.2.1
    have k1 := h.1.2.2.1
    have tt := tks_T hK k0 k1
    have tb := tt_b tt.1
    have mt := mty_c tt.1
    have sT : σ.1 9 7 = I (kT K k) := h.1.2.2.2.2.1
    have sS : σ.1 9 8 = I (kS K k) := h.1.2.2.2.2.2.1
    have sW : σ.2 9 9 = kW K k := h.1.2.2.2.2.2.2
    have mT : τ.1 0 29 = I (mty (kT K k)) := h.2.1.2.2.2.1
    have mS : τ.1 0 30 = I (kS K k) := h.2.1.2.2.2.2.1
    by_cases t2 : kT K k = 2
    · -- a name
      have hk2 := tt.2.1 (by rw [t2]; decide)
      have mW : τ.2 0 32 = kW K k := (h.2.1.2.2.2.2.2.2.1 (Or.inl t2)).1
      have cc : f_X6_readTerm F (Df + 1) (I d) σ = Option.bind (f_X6_readName F (I d) σ) (fun x2 => some (x2.1, x2.2)) := by
        rw [f_X6_readTerm, if_pos (by rw [sT, t2]; rfl)]
      have m1 : τ.1 0 29 = (1 : Int32) := by rw [mT, mt.1.mpr t2]; rfl
      by_cases h12 : d = 12
      · left
        refine ⟨I (-1), _, _, ?_, flt_go (z := kS K k) (c := 4) h.2.2.1 (fre_tr h.2.2.2.1 (fre_i (c := 0) (j := 60) (v := I (-1)) (by omega))) (by omega) (by omega), 1, by omega, fun n' => ?_⟩
        · rw [cc]
          unfold f_X6_readName
          rw [if_pos (by rw [h12]; exact Int32.le_refl _), Option.bind_some, if_pos rfl, show (4 : Int32) = I 4 from rfl, c_refuse h.1]
          rfl
        · unfold RT
          rw [f_X12_readTerm_L2, Option.bind_some, if_pos m1, if_pos (by rw [h12]; rfl), Option.bind_some, Option.bind_some, if_pos (by rw [seti1, if_pos ⟨rfl, rfl⟩]; show (-1 : Int32) < 0; decide)]
          exact tkC_e (atm_fr h.2.1 (seti_r (by omega)) (fun j q => by rw [seti1, if_neg (by omega)]) rfl)
      · have v12 : ¬ (I d = (12 : Int32)) := fun q => h12 ((Ieq (12) (12) (by omega) (by omega) (by omega) (by omega)).mp q)
        rcases name_ok E h t2 d0 (by omega) with ⟨A1, A2⟩ | ⟨D', v, cv, σ', τ', A1, A2, A3, A4, A5, A6, A7, A8, A9, A10, A11⟩
        · left
          refine ⟨I (-1), _, _, by rw [cc, A1]; rfl, flt_go (z := kS K k) (c := 4) h.2.2.1 (fre_tr h.2.2.2.1 (fre_i (c := 0) (j := 60) (v := I (-1)) (by omega))) (by omega) (by omega), 1, by omega, fun n' => ?_⟩
          unfold RT
          rw [f_X12_readTerm_L2, Option.bind_some, if_pos m1, if_neg v12, A2, Option.bind_some, Option.bind_some, Option.bind_some, if_pos (by rw [seti1, if_pos ⟨rfl, rfl⟩]; show I (-1) < (0 : Int32); decide)]
          exact tkC_e (atm_fr h.2.1 (seti_r (by omega)) (fun j q => by rw [seti1, if_neg (by omega)]) rfl)
        · right
          have hR : Rel n ch K N B L σ0 τ0 (k + 1) k D' σ' (seti τ' 0 60 (I v)) := rel_m A3 (fun c x _ _ _ _ => seti_r x) (fun j x => by rw [seti1, if_neg (by omega)]) rfl
          obtain ⟨τ2, B1, B2, B3⟩ := rel_take E hR
          rw [hk2.1] at B3
          have c29 : ∀ c, c = 29 ∨ (32 ≤ c ∧ c ≤ 36) → τ2.1 c = τ.1 c := fun c q => by rw [B2.1 c (by omega), seti_r (by omega)]; exact A9 c q
          refine ⟨k + 1, D', v, cv, σ', τ2, by omega, by rw [cc, A1]; rfl, B3, A4, ⟨A5, A6⟩, ?_, skk_eq (fun c q => c29 c (by omega)), ⟨A8, c29 32 (by omega)⟩, ⟨1, by omega, fun n' X hX => ?_⟩, fun G A lo hj hG h2 => ?_, fun h2 => ?_⟩
          · rw [B2.2.1 60 (by omega) (by omega) (by omega) (by omega) (by omega), seti1, if_pos ⟨rfl, rfl⟩]
          · unfold RT
            rw [f_X12_readTerm_L2, Option.bind_some, if_pos m1, if_neg v12, A2, Option.bind_some, Option.bind_some, Option.bind_some, if_neg (by rw [seti1, if_pos ⟨rfl, rfl⟩]; exact fun q => by have := (Ilt (0) (0) (by omega) (by omega) (by omega) (by omega)).mp q; omega), B1, Option.bind_some]
            exact hX F (by omega)
          · obtain ⟨_, w2, w3, w4⟩ := A11 h2
            refine jr_iff (jr_fr (hj hG (dx_al A4 h2)) A7 (c29 29 (by omega))) (fun x => ⟨fun q => ?_, fun q => Or.inl q⟩)
            rcases q with q | q
            · exact q
            · rcases (w4 x).mp q.1 with w | w
              · exact absurd w q.2.1
              · exact absurd w q.2.2
          · obtain ⟨w1, w2, w3, _⟩ := A11 h2
            exact ⟨w1, w2, w3⟩
    · have n2 : ¬ (σ.1 9 7 = (2 : Int32)) := fun q => by rw [sT] at q; exact t2 ((Ieq (2) (2) (by omega) (by omega) (by omega) (by omega)).mp q)
      have m1 : ¬ (τ.1 0 29 = (1 : Int32)) := fun q => by rw [mT] at q; exact t2 (mt.1.mp ((Ieq (1) (1) (by omega) (by omega) (by omega) (by omega)).mp q))
      by_cases t3 : kT K k = 3
      · -- a kind
        have hk2 := tt.2.1 (by rw [t3]; decide)
        have mW : τ.2 0 32 = kW K k := (h.2.1.2.2.2.2.2.2.1 (Or.inr t3)).1
        have s3 : σ.1 9 7 = (3 : Int32) := by rw [sT, t3]; rfl
        have m2 : τ.1 0 29 = (2 : Int32) := by rw [mT, mt.2.1.mpr t3]; rfl
        obtain ⟨z, hz⟩ := find_z E.2.2.2.2.1 (kW K k)
        have cf := c_find hF hV (rel_kc E h.2.2.1) hz
        have mf := m_find hF hV (rel_km E h.2.2.2.1) hz
        by_cases zn : z = -1
        · left
          refine ⟨I (-1), _, _, ?_, flt_go (z := kS K k) (c := 3) h.2.2.1 h.2.2.2.1 (by omega) (by omega), 1, by omega, fun n' => ?_⟩
          · rw [f_X6_readTerm, if_neg n2, if_pos s3, sW, cf, Option.bind_some, Option.bind_some, if_pos s3, if_pos (by rw [zn]; rfl), show (3 : Int32) = I 3 from rfl, c_refuse h.1]
            rfl
          · unfold RT
            rw [f_X12_readTerm_L2, Option.bind_some, if_neg m1, if_pos m2, mW, mf, Option.bind_some, if_pos (by rw [zn]; decide)]
            exact tkD_e h.2.1
        · have z0 : 0 ≤ z := by rcases hz with q | q <;> omega
          have z1 : z < Bkn B := by rcases hz with q | q <;> omega
          have zc : ¬ (I z = (-1 : Int32)) := fun q => by have := (Ieq (-1) (-1) (by omega) (by omega) (by omega) (by omega)).mp q; omega
          have zm : ¬ (I z < (0 : Int32)) := fun q => by have := (Ilt (0) (0) (by omega) (by omega) (by omega) (by omega)).mp q; omega
          have pb := hV.2.2.1 z z0 z1
          have na0 := h.2.2.2.2.1.1
          have naL := h.2.2.2.2.1.2.1
          have s25 : σ.1 2 5 = I (Dna D) := h.2.2.2.2.2.1.1
          have s12 : σ.1 1 2 = I (if L = 12 then 1 else 0) := h.2.2.2.2.2.2.2.2
          have t49 : τ.1 0 49 = I (Dna D) := h.2.2.2.2.2.2.1.1
          have t50 : τ.1 0 50 = I L := h.2.2.2.2.2.2.1.2.1
          have lim : (if σ.1 1 2 = 0 then some (200 : Int32) else some (12 : Int32)) = some (I L) := by
            rw [s12]
            rcases hL with q | q
            · rw [q]; rfl
            · rw [q]; rfl
          by_cases room : d < 12 ∧ Dna D < L
          · -- there is room
            have p12 : I d < (12 : Int32) := (Ilt (12) (12) (by omega) (by omega) (by omega) (by omega)).mpr room.1
            have nle : ¬ (I L ≤ I (Dna D)) := fun q => by have := (I_le (by omega) (by omega) (by omega) (by omega)).mp q; omega
            have ca := c_addAgent (z := z) h.2.2.2.2.2.1 na0 (by omega)
            have hA := rel_agent (S := kS K k) E h z0 z1 room.2
            obtain ⟨σ1, C1, C2, C3⟩ := rel_adv E hA
            obtain ⟨τ1, D1, D2, D3⟩ := rel_take E C3
            rw [hk2.1] at C3 D3
            have akk : Dak (addA D z (kS K k)) (Dna D) = z := if_pos rfl
            have app : Dap (addA D z (kS K k)) (Dna D) = kS K k := if_pos rfl
            have ann : Dna (addA D z (kS K k)) = Dna D + 1 := rfl
            have c3 : σ1.1 3 = σ.1 3 := by rw [C2.1 3 (by omega), seti_r (by omega), seti_r (by omega)]
            have c8 : σ1.1 8 = σ.1 8 := by rw [C2.1 8 (by omega), seti_r (by omega), seti_r (by omega)]
            have m29 : ∀ c, c = 29 ∨ (32 ≤ c ∧ c ≤ 36) → τ1.1 c = τ.1 c := fun c q => by rw [D2.1 c (by omega), seti_r (by omega), seti_r (by omega), seti_r (by omega), seti_r (by omega)]
            have m49 : τ1.1 0 49 = I (Dna D + 1) := D3.2.2.2.2.2.2.1.1
            have m60 : τ1.1 0 60 = I (5 * Dna D) := by rw [D2.2.1 60 (by omega) (by omega) (by omega) (by omega) (by omega), seti1, if_neg (by omega), seti1, if_pos ⟨rfl, rfl⟩]
            have m28 : τ1.1 28 (Dna D).toNat = I (kS K k) := by
              have := (D3.2.2.2.2.2.2.1.2.2.2.1 (Dna D) na0 (by rw [ann]; omega)).2
              rw [app] at this
              exact this
            have m18 : τ1.1 18 z.toNat = I (Bpt B z) := (rel_km E D3.2.2.2.1).2.2.1 z z0 z1
            have cpc : f_X11_portCode (I (Dna D)) (0 : Int32) = I (pt (5 * Dna D)) := by
              unfold f_X11_portCode pt
              rw [show (8 : Int32) = I 8 from rfl, show (0 : Int32) = I 0 from rfl, I_mul, I_add, if_pos (by omega), show 8 * Dna D + 0 = 8 * (5 * Dna D / 5) + 5 * Dna D % 5 by omega]
            have sT1 : σ1.1 9 7 = I (kT K (k + 1)) := D3.1.2.2.2.2.1
            have tt1 := tks_T hK D3.1.2.1 D3.1.2.2.1
            have tb1 := tt_b tt1.1
            have cls : ∀ Y : Option (Int32 × St), (Option.bind (if (σ1.1 9 7) = (40 : Int32) then (Option.bind (f_X6_readBracket F (f_X6_readTerm F Df) (I (Dna D)) (I d) σ1) fun x21 => some (x21.1, x21.2)) else (some ((0 : Int32), σ1))) fun t19 => Option.bind (f_X6_askBracket (I z) t19.1 (I (kS K k)) t19.2) fun s22 => some (I (pt (5 * Dna D)), s22)) = Y → f_X6_readTerm F (Df + 1) (I d) σ = Y := by
              intro Y hY
              rw [f_X6_readTerm, if_neg n2, if_pos s3, sW, cf, Option.bind_some, Option.bind_some, if_pos s3, if_neg zc, Option.bind_some, if_pos p12, lim, Option.bind_some, s25, if_neg nle, sS, Option.bind_some, ca, Option.bind_some, C1, Option.bind_some, cpc]
              exact hY
            have i200 : inb (I (Dna D)) 200 = true := (I_inb (by omega) (by omega)).mpr ⟨by omega, by omega⟩
            have i16 : inb (I z) 16 = true := (I_inb (by omega) (by omega)).mpr ⟨by omega, by omega⟩
            have i12 : inb (I d) 12 = true := (I_inb (by omega) (by omega)).mpr ⟨by omega, by omega⟩
            have xn : ix (I (Dna D)) = (Dna D).toNat := I_ix (by omega) (by omega)
            have xz : ix (I z) = z.toNat := I_ix (by omega) (by omega)
            have xd : ix (I d) = d.toNat := I_ix (by omega) (by omega)
            have e40 := m_sg hK D3.2.1 (c := 40) (by decide)
            have f1 : (seti τ 27 (Dna D).toNat (I z)).1 0 49 = I (Dna D) := by rw [seti_r (by omega)]; exact t49
            have f2 : (seti τ 27 (Dna D).toNat (I z)).1 0 30 = I (kS K k) := by rw [seti_r (by omega)]; exact mS
            have f3 : (seti (seti τ 27 (Dna D).toNat (I z)) 28 (Dna D).toNat (I (kS K k))).1 0 49 = I (Dna D) := by rw [seti_r (by omega)]; exact f1
            have f4 : (seti (seti (seti τ 27 (Dna D).toNat (I z)) 28 (Dna D).toNat (I (kS K k))) 0 60 (I (5 * Dna D))).1 0 49 = I (Dna D) := by rw [seti1, if_neg (by omega)]; exact f3
            have ref : ∀ (n' : Nat) (Y : Option (Int32 × St)), (if (if kT K (k + 1) = 40 then 1 else 0 : Int) = 0 then (if τ1.1 18 z.toNat = (1 : Int32) then RI F n' F d (I 0) τ1 else tkB τ1) else Option.bind (f_X12_take F (seti (seti τ1 33 d.toNat (I (Dna D))) 34 d.toNat (I 1))) fun s76 => RI F n' F (d + 1) (I 1) s76) = Y → RT F (n' + 1) d τ = Y := by
              intro n' Y hY
              unfold RT
              have g1 : ¬ ((I d = (12 : Int32)) ∨ (I (Dna D) = I L)) := by
                rintro (q | q)
                · have := (Ieq (12) (12) (by omega) (by omega) (by omega) (by omega)).mp q; omega
                · have := (I_eq (by omega) (by omega) (by omega) (by omega)).mp q; omega
              have g2 : (5 : Int32) * I (Dna D) = I (5 * Dna D) := by rw [show (5 : Int32) = I 5 from rfl, I_mul]
              have g3 : I (Dna D) + (1 : Int32) = I (Dna D + 1) := by rw [show (1 : Int32) = I 1 from rfl, I_add]
              rw [f_X12_readTerm_L2, Option.bind_some, if_neg m1, if_pos m2, mW, mf, Option.bind_some, if_neg zm, t49, t50, if_neg g1, if_pos i200, xn, Option.bind_some, f1, if_pos i200, xn, f2, Option.bind_some, f3, g2, Option.bind_some, f4, g3, Option.bind_some, D1, Option.bind_some, show (40 : Int32) = I 40 from rfl, e40, Option.bind_some, Option.bind_some]
              rw [← hY]
              by_cases q : kT K (k + 1) = 40
              · rw [if_pos q, if_neg (show ¬ (I 1 = (0 : Int32)) by decide), if_pos i12, xd, m49, show I (Dna D + 1) - (1 : Int32) = I (Dna D) by rw [show (1 : Int32) = I 1 from rfl, I_sub, show Dna D + 1 - 1 = Dna D by omega], Option.bind_some, if_pos i12, Option.bind_some, Option.bind_some, if_neg (by decide), show I d + (1 : Int32) = I (d + 1) by rw [show (1 : Int32) = I 1 from rfl, I_add]]
                rfl
              · rw [if_neg q, if_pos (show I 0 = (0 : Int32) from rfl), if_pos i16, xz, if_pos rfl]
                rfl
            have lowA : ∀ A, Low B D A → Low B (addA D z (kS K k)) A := fun A lo x hx => by
              rcases lo x hx with w | w
              · exact Or.inl (dx_v addA_x w)
              · exact Or.inr w
            by_cases q40 : kT K (k + 1) = 40
            · -- with a bracket
              have sB : σ1.1 9 7 = (40 : Int32) := by rw [sT1, q40]; rfl
              have hR : Rel n ch K N B L σ0 τ0 (k + 1) (k + 1) (addA D z (kS K k)) σ1 (seti (seti τ1 33 d.toNat (I (Dna D))) 34 d.toNat (I 1)) := rel_m D3 (fun c _ _ _ x y => by rw [seti_r y, seti_r x]) (fun j x => by rw [seti_r (by omega), seti_r (by omega)]) rfl
              have hb := bracket (S := kS K k) E d0 room.1 (ih (d + 1) (by omega) (by omega) (by omega)) z0 z1 na0 F 0 (k + 1) (addA D z (kS K k)) σ1 _ (by omega) (by omega) (by rw [q40]; decide) (by omega) hR (by rw [ann]; omega) akk app (by rw [seti_r (by omega), seti1, if_pos ⟨rfl, rfl⟩]) (by rw [seti1, if_pos ⟨rfl, rfl⟩]; rfl)
              obtain ⟨F', rfl⟩ : ∃ F', F = F' + 1 := ⟨F - 1, by omega⟩
              have cb : ∀ s', CB (F' + 1) Df (Dna D) d z (kS K k) (F' + 1) 0 σ1 = some s' → f_X6_readTerm (F' + 1) (Df + 1) (I d) σ = some (I (pt (5 * Dna D)), s') := by
                intro s' hs
                apply cls
                rw [if_pos sB]
                unfold CB at hs
                unfold f_X6_readBracket
                have hs' : (Option.bind (Option.bind (f_X6_readBracket_L2 (F' + 1) (f_X6_readTerm (F' + 1) Df) (I (Dna D)) (I d) (F' + 1) (0 : Int32) σ1) (fun t14 => if (t14.2.1 (1) 4) = 0 then (Option.bind (f_X6_pass (41 : Int32) t14.2) fun s16 => some (t14.1, s16)) else (some (t14.1, t14.2)))) (fun x21 => f_X6_askBracket (I z) x21.1 (I (kS K k)) x21.2)) = some s' := hs
                revert hs'
                cases (Option.bind (f_X6_readBracket_L2 (F' + 1) (f_X6_readTerm (F' + 1) Df) (I (Dna D)) (I d) (F' + 1) (0 : Int32) σ1) (fun t14 => if (t14.2.1 (1) 4) = 0 then (Option.bind (f_X6_pass (41 : Int32) t14.2) fun s16 => some (t14.1, s16)) else (some (t14.1, t14.2)))) with
                | none => intro q; exact absurd q (by simp)
                | some x =>
                  intro q
                  rw [Option.bind_some] at q
                  rw [Option.bind_some, Option.bind_some, q, Option.bind_some]
              have hone : ∀ n', (fun s76 => RI (F' + 1) n' (F' + 1) (d + 1) (I 1) s76) = (fun s => RT (F' + 1) n' (d + 1) s) := fun n' => by
                funext s
                exact ri_one
              rcases hb with ⟨σ', τ', G1, G2, M, G3, G4⟩ | ⟨k', D', σ', τ', kk, G1, G2, G3, G4, G5, G6, G7, ⟨M, G8, G9⟩, G10⟩
              · left
                refine ⟨_, σ', τ', cb σ' G1, G2, M + 1, by omega, fun n' => ?_⟩
                rw [← Nat.add_assoc]
                apply ref
                rw [if_pos q40, if_neg (by decide), hone]
                exact G4 n'
              · right
                refine ⟨k', D', 5 * Dna D, _, σ', τ', by omega, cb σ' G1, G2, dx_tr addA_x G3, ⟨by omega, by omega⟩, G5, ?_, ⟨by rw [G7.1, c8], by rw [G7.2, seti_r (by omega), seti_r (by omega)]; exact m29 32 (by omega)⟩, ⟨M + 1, by omega, fun n' X hX => ?_⟩, fun G A lo hj hG h2 => ?_, fun h2 => ?_⟩
                · intro i i0 i1
                  have := G6 i i0 i1
                  rw [this.1, this.2, seti_r (by omega), seti1, if_neg (by omega), seti1, if_neg (by omega), seti_r (by omega)]
                  rw [m29 33 (by omega), m29 34 (by omega)]
                  exact ⟨rfl, rfl⟩
                · rw [← Nat.add_assoc]
                  apply ref
                  rw [if_pos q40, if_neg (by decide), hone]
                  exact G9 n' X hX
                · have hj0 : JG G (addA D z (kS K k)) A σ1 (seti (seti τ1 33 d.toNat (I (Dna D))) 34 d.toNat (I 1)) := fun hG h2 => jr_fr (hj hG h2) c3 (by rw [seti_r (by omega), seti_r (by omega)]; exact m29 29 (by omega))
                  have h3 := G10 G A (lowA A lo) (fun p hp hq w => by
                    rcases lo _ w with w | w
                    · exact nv_new na0 (by omega) (by omega) w
                    · omega) hj0 hG h2
                  have av := addA_v (D := D) (z := z) (S := kS K k) (B := B) na0 (by omega) pb.2
                  refine jr_iff h3 (fun x => ?_)
                  constructor
                  · rintro (q | q)
                    · exact Or.inl q
                    · by_cases w : 5 * Dna D + 0 < x ∧ x < 5 * Dna D + Bpt B z
                      · exact Or.inr (Or.inr w)
                      · refine Or.inr (Or.inl ⟨q.1, fun u => ?_⟩)
                        rcases (av x).mp u with y | y
                        · exact q.2.1 y
                        · have := q.2.2; omega
                  · rintro (q | q | q)
                    · exact Or.inl q
                    · refine Or.inr ⟨q.1, fun w => q.2 ((av x).mpr (Or.inl w)), fun w => q.2 ((av x).mpr (Or.inr (by omega)))⟩
                    · exact Or.inr ⟨dx_v G3 ((av x).mpr (Or.inr (by omega))), nv_new na0 (by omega) (by omega), by omega⟩
                · have av := addA_v (D := D) (z := z) (S := kS K k) (B := B) na0 (by omega) pb.2
                  exact ⟨rfl, dx_v G3 ((av _).mpr (Or.inr (by omega))), nv_new na0 (by omega) (by omega)⟩
            · -- without a bracket
              have sB : ¬ (σ1.1 9 7 = (40 : Int32)) := fun q => by rw [sT1] at q; exact q40 ((Ieq (40) (40) (by omega) (by omega) (by omega) (by omega)).mp q)
              have s0 : σ1.1 1 4 = (0 : Int32) := D3.2.2.2.2.2.2.2.1
              have pc := c_ports hV (rel_kc E D3.2.2.1) z0 z1
              have eq1 : I (Bpt B z) - (1 : Int32) = I (Bpt B z - 1) := by rw [show (1 : Int32) = I 1 from rfl, I_sub]
              by_cases hq : Bpt B z = 1
              · right
                refine ⟨k + 1, addA D z (kS K k), 5 * Dna D, I (pt (5 * Dna D)), σ1, τ1, by omega, ?_, D3, addA_x, ⟨by omega, by omega⟩, m60, skk_eq (fun c q => m29 c (by omega)), ⟨c8, m29 32 (by omega)⟩, ⟨1, by omega, fun n' X hX => ?_⟩, fun G A lo hj hG h2 => ?_, fun h2 => ?_⟩
                · apply cls
                  rw [if_neg sB, Option.bind_some]
                  unfold f_X6_askBracket
                  rw [if_pos s0, pc, Option.bind_some, eq1, if_pos (by rw [hq]; rfl), Option.bind_some]
                · apply ref
                  rw [if_neg q40, if_pos rfl, m18, if_pos (by rw [hq]; rfl)]
                  exact hX F (by omega)
                · have av := addA_v (D := D) (z := z) (S := kS K k) (B := B) na0 (by omega) pb.2
                  refine jr_iff (jr_fr (hj hG h2) c3 (m29 29 (by omega))) (fun x => ⟨fun q => ?_, fun q => Or.inl q⟩)
                  rcases q with q | q
                  · exact q
                  · rcases (av x).mp q.1 with w | w
                    · exact absurd w q.2.1
                    · exact absurd (show x = 5 * Dna D by omega) q.2.2
                · have av := addA_v (D := D) (z := z) (S := kS K k) (B := B) na0 (by omega) pb.2
                  exact ⟨rfl, (av _).mpr (Or.inr (by omega)), nv_new na0 (by omega) (by omega)⟩
              · left
                refine ⟨I (pt (5 * Dna D)), _, _, ?_, flt_go (z := kS K k) (c := 5) D3.2.2.1 D3.2.2.2.1 (by omega) (by omega), 1, by omega, fun n' => ?_⟩
                · apply cls
                  rw [if_neg sB, Option.bind_some]
                  unfold f_X6_askBracket
                  rw [if_pos s0, pc, Option.bind_some, eq1, if_neg (fun q => by have := (Ieq' (0) (0) (by omega) (by omega) (by omega) (by omega)).mp q; omega)]
                  rfl
                · apply ref
                  rw [if_neg q40, if_pos rfl, m18, if_neg (fun q => hq ((Ieq (1) (1) (by omega) (by omega) (by omega) (by omega)).mp q))]
                  exact tkB_e na0 (by omega) m49 m28
          · -- no room
            left
            refine ⟨I (-1), _, _, ?_, flt_go (z := kS K k) (c := 4) h.2.2.1 h.2.2.2.1 (by omega) (by omega), 1, by omega, fun n' => ?_⟩
            · rw [f_X6_readTerm, if_neg n2, if_pos s3, sW, cf, Option.bind_some, Option.bind_some, if_pos s3, if_neg zc, Option.bind_some, lim, s25]
              by_cases p12 : d < 12
              · rw [if_pos ((Ilt (12) (12) (by omega) (by omega) (by omega) (by omega)).mpr p12), Option.bind_some, if_pos ((I_le (by omega) (by omega) (by omega) (by omega)).mpr (by omega))]
                show Option.bind (f_X6_refuse (I 4) σ) _ = _
                rw [c_refuse h.1]
                rfl
              · rw [if_neg (fun q => p12 ((Ilt (12) (12) (by omega) (by omega) (by omega) (by omega)).mp q))]
                show Option.bind (f_X6_refuse (I 4) σ) _ = _
                rw [c_refuse h.1]
                rfl
            · unfold RT
              have g1 : (I d = (12 : Int32)) ∨ (I (Dna D) = I L) := by
                by_cases p12 : d < 12
                · right; rw [show Dna D = L by omega]
                · left; rw [show d = 12 by omega]; rfl
              rw [f_X12_readTerm_L2, Option.bind_some, if_neg m1, if_pos m2, mW, mf, Option.bind_some, if_neg zm, t49, t50, if_pos g1]
              exact tkC_e h.2.1
      · -- neither
        left
        have n3 : ¬ (σ.1 9 7 = (3 : Int32)) := fun q => by rw [sT] at q; exact t3 ((Ieq (3) (3) (by omega) (by omega) (by omega) (by omega)).mp q)
        have m2 : ¬ (τ.1 0 29 = (2 : Int32)) := fun q => by rw [mT] at q; exact t3 (mt.2.1.mp ((Ieq (2) (2) (by omega) (by omega) (by omega) (by omega)).mp q))
        refine ⟨I (-1), _, _, ?_, flt_go (z := kS K k) h.2.2.1 h.2.2.2.1 (wc_b (kT K k)).1 (wc_b (kT K k)).2, 1, by omega, fun n' => ?_⟩
        · rw [f_X6_readTerm, if_neg n2, if_neg n3, Option.bind_some, if_neg n3, c_wrong hK h.1]
          rfl
        · unfold RT
          rw [f_X12_readTerm_L2, Option.bind_some, if_neg m1, if_neg m2]
          exact tkA_e hK h.2.1
end TRM
