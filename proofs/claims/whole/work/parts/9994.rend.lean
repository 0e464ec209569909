section RED
variable {n : Int} {ch : Int → Int} {K : TkT} {N : Int} {B : BkT} {σs τs : St} {k : Int} {D : DrT} {σ τ : St} {F : Nat} {sk : Int → Int}
theorem rul_sheet (hK : KdV B) (hV : DrV B 12 k D) (h2 : ∀ i, 0 ≤ i → i < Dnn D → Dtm D i = 2) (hs : ∀ s, 0 ≤ s → s ≤ 1 → 0 ≤ sk s ∧ sk s < Bkn B) (hM : DrM 12 D τ) (hJ : JR (fun x => Vx B D x ∨ (1200 ≤ x ∧ x < 1210 ∧ 1 ≤ (x - 1200) % 5 ∧ (x - 1200) % 5 < Bpt B (sk ((x - 1200) / 5)))) σ τ) : ∃ r Ou, ShtH B D Ou r ∧ OuRl B sk true Ou ∧ CJ B D Ou r σ ∧ MJ B D Ou r true τ := by
  obtain ⟨J, hJ⟩ := hJ
  have h60 := hV.2.2.2.2.1
  have a2 : Al2 D := fun m a b => by rw [h2 m a b]; exact Int.le_refl _
  have vx : ∀ x, Vx B D x ↔ (Agv B D x ∨ SNv D x) := fun x => by
    rw [vx_of hV a2 x]
    refine ⟨fun q => q.1, fun q => ⟨q, fun w => ?_⟩⟩
    have w0 := w.1
    rcases q with q | q
    · unfold Agv at q; omega
    · unfold SNv at q
      have := h2 ((x - 1000) / 2) (by omega) (by omega)
      rw [w.2.2] at this
      omega
  obtain ⟨Ou, hOu⟩ : ∃ Ou : Int → Prop, ∀ x, Ou x ↔ (1200 ≤ x ∧ x < 1210 ∧ 1 ≤ (x - 1200) % 5 ∧ (x - 1200) % 5 < Bpt B (sk ((x - 1200) / 5))) := ⟨_, fun _ => Iff.rfl⟩
  have dm : ∀ x, Dmv B D Ou x ↔ (Vx B D x ∨ (1200 ≤ x ∧ x < 1210 ∧ 1 ≤ (x - 1200) % 5 ∧ (x - 1200) % 5 < Bpt B (sk ((x - 1200) / 5)))) := fun x => by
    rw [vx x, ← hOu x]
    unfold Dmv
    exact or_assoc.symm
  refine ⟨J, Ou, ⟨hK, ⟨hV.1, by have := hV.2.1; omega⟩, hV.2.2.1, ⟨hV.2.2.2.1, h60⟩, fun x hx => ⟨((hOu x).mp hx).1, ((hOu x).mp hx).2.1, ((hOu x).mp hx).2.2.1⟩, fun x hx => ?_⟩, fun _ => ⟨hs, hOu⟩, fun x hx => ?_, ⟨fun x hx _ => ?_, fun v a b => ?_, fun q => absurd q (by decide)⟩⟩
  · have j := hJ x ((dm x).mp hx)
    exact ⟨(dm _).mpr j.2.1, j.2.2.1, j.2.2.2.1⟩
  · exact (hJ x ((dm x).mp hx)).2.2.2.2.1
  · exact (hJ x ((dm x).mp hx)).2.2.2.2.2
  · exact ⟨(hM.2.2.2.2 v a b).2, Or.inl (h2 v a b)⟩
theorem rule_end (E : EnvH F n ch K N B 12 σs τs) (h : Rel n ch K N B 12 σs τs k k D σ τ) (hs : ∀ s, 0 ≤ s → s ≤ 1 → (0 ≤ sk s ∧ sk s < Bkn B) ∧ σ.1 8 s.toNat = I (sk s) ∧ τ.1 32 s.toNat = I (sk s)) (hJ : JG True D (fun x => Vx B D x ∨ (1200 ≤ x ∧ x < 1210 ∧ 1 ≤ (x - 1200) % 5 ∧ (x - 1200) % 5 < Bpt B (sk ((x - 1200) / 5)))) σ τ) (hRV : RuV B) (hRC : RuC B (σ.1 19) (σ.1 20) (σ.1 21) (σ.1 22) (σ.1 23) (σ.1 24) (σ.1 25) (σ.1 26)) (hRM : RuM B (τ.1 0 41) (τ.1 21) (τ.1 22) (τ.1 23) (τ.1 24) (τ.1 25) (τ.1 26)) (hRF : RuF B σ τ) (r60 : Brn B < 60) : (∃ σ' τ', f_X6_endRule F σ = some σ' ∧ jp14 F τ = some (I 0, τ') ∧ FltU σ τ σ' τ') ∨ (∃ far R σ' τ', f_X6_endRule F σ = some σ' ∧ jp14 F τ = some (I 1, τ') ∧ kT K k = 59 ∧ AtC K N (k + 1) σ' ∧ AtM n ch K N k τ' ∧ FrUc σ σ' ∧ FrUm τ τ' ∧ σ'.1 1 4 = I 0 ∧ RuV (addR B (sk 0) (sk 1) D far R) ∧ RuC (addR B (sk 0) (sk 1) D far R) (σ'.1 19) (σ'.1 20) (σ'.1 21) (σ'.1 22) (σ'.1 23) (σ'.1 24) (σ'.1 25) (σ'.1 26) ∧ RuM (addR B (sk 0) (sk 1) D far R) (τ'.1 0 41) (τ'.1 21) (τ'.1 22) (τ'.1 23) (τ'.1 24) (τ'.1 25) (τ'.1 26) ∧ RuF (addR B (sk 0) (sk 1) D far R) σ' τ') := by
  have hK := E.2.1
  have hV := E.2.2.2.1
  have hF := E.2.2.1
  have n4 := E.1.2.1
  have tN1 := hK.2.1
  obtain ⟨r1, r2, r3, r4, r5, r6, r7, r8, r9⟩ := h
  have k0 := r1.2.1
  have k1 := r1.2.2.1
  have tt := tks_T hK k0 k1
  have tb := tt_b tt.1
  have b16 := hV.2.1
  have s0 := hs 0 (by omega) (by omega)
  have s1 := hs 1 (by omega) (by omega)
  have c80 : σ.1 8 (ix (0 : Int32)) = I (sk 0) := by rw [show ix (0 : Int32) = 0 by decide]; exact s0.2.1
  have c81 : σ.1 8 (ix (1 : Int32)) = I (sk 1) := by rw [show ix (1 : Int32) = 1 by decide]; exact s1.2.1
  have m320 : τ.1 32 (ix (0 : Int32)) = I (sk 0) := by rw [show ix (0 : Int32) = 0 by decide]; exact s0.2.2
  have m321 : τ.1 32 (ix (1 : Int32)) = I (sk 1) := by rw [show ix (1 : Int32) = 1 by decide]; exact s1.2.2
  have gT : σ.1 9 7 = I (kT K k) := r1.2.2.2.2.1
  have e59 := m_sg hK r2 (c := 59) (by decide)
  have na0 := r5.1
  have na2 := r5.2.1
  have nn0 := r5.2.2.2.1
  have nn6 := r5.2.2.2.2.1
  have rn0 := hRV.1
  have mS : ∀ (c : Int) (u : St), u.1 0 30 = τ.1 0 30 → (Option.bind (f_X12_fail (I c) (u.1 (0) 30) u) fun x35 => if x35.1 = 0 ∨ x35.1 = 1 then some (x35.1, x35.2) else none) = some (I 0, seti (seti u 0 35 (I c)) 0 2 (I (kS K k))) := fun c u e => by
    rw [e, r2.2.2.2.2.1]; rfl
  by_cases t59 : kT K k = 59
  · have hk2 := tt.2.1 (by rw [t59]; decide)
    have g59 : σ.1 9 7 = (59 : Int32) := by rw [gT, t59]; rfl
    obtain ⟨acc, A1, A2, A3⟩ := m_all2 (F := F) (T := 0) r7.2.2.1 nn0 nn6 (fun v a b => ⟨(r7.2.2.2.2 v a b).2, by have := r5.2.2.2.2.2 v a b; omega, by have := r5.2.2.2.2.2 v a b; omega⟩) F 0 1 (by omega) nn0 (by omega) (Or.inr rfl)
    have A1' : f_X12_readRule_L106 F τ F (1 : Int32) (0 : Int32) = some (I acc) := A1
    have hacc : acc = 1 ↔ ∀ i, 0 ≤ i → i < Dnn D → Dtm D i = 2 := A3.trans ⟨fun q i x y => q.2 i x y, fun q => ⟨rfl, fun i x y => q i x y⟩⟩
    have tbl := hRF.1 (sk 0) (sk 1) s0.1.1 (by omega) s1.1.1 (by omega)
    have rob := hRV.2.2.1 (sk 0) (sk 1) s0.1.1 s0.1.2 s1.1.1 s1.1.2
    have e16 : (16 : Int32) * I (sk 0) + I (sk 1) = I (16 * sk 0 + sk 1) := by rw [show (16 : Int32) = I 16 from rfl, I_mul, I_add]
    have e16' : (16 : Int32) * I (sk 1) + I (sk 0) = I (16 * sk 1 + sk 0) := by rw [show (16 : Int32) = I 16 from rfl, I_mul, I_add]
    have i25 : inb (I (16 * sk 0 + sk 1)) 256 = true := (I_inb (by omega) (by omega)).mpr ⟨by omega, by omega⟩
    have i25' : inb (I (16 * sk 1 + sk 0)) 256 = true := (I_inb (by omega) (by omega)).mpr ⟨by omega, by omega⟩
    have x25 : ix (I (16 * sk 0 + sk 1)) = (16 * sk 0 + sk 1).toNat := I_ix (by omega) (by omega)
    have x25' : ix (I (16 * sk 1 + sk 0)) = (16 * sk 1 + sk 0).toNat := I_ix (by omega) (by omega)
    have rfor : f_X8_ruleFor 19 (I (sk 0)) (I (sk 1)) σ = some (I (Bro B (16 * sk 0 + sk 1))) := by
      unfold f_X8_ruleFor f_X11_isInside
      have c0 : (0 : Int32) ≤ I (sk 0) ∧ I (sk 0) < (16 : Int32) := ⟨(Ile' (0) (0) (by omega) (by omega) (by omega) (by omega)).mpr s0.1.1, (Ilt (16) (16) (by omega) (by omega) (by omega) (by omega)).mpr (by omega)⟩
      have c1 : (0 : Int32) ≤ I (sk 1) ∧ I (sk 1) < (16 : Int32) := ⟨(Ile' (0) (0) (by omega) (by omega) (by omega) (by omega)).mpr s1.1.1, (Ilt (16) (16) (by omega) (by omega) (by omega) (by omega)).mpr (by omega)⟩
      rw [if_pos c0, Option.bind_some, if_pos c1, if_neg (by decide), show I (sk 0) * (16 : Int32) + I (sk 1) = I (16 * sk 0 + sk 1) by rw [show (16 : Int32) = I 16 from rfl, I_mul, I_add, show sk 0 * 16 + sk 1 = 16 * sk 0 + sk 1 by omega], if_pos i25, x25, show 19 + 1 = 20 from rfl, tbl.1]
    have hn1 := c_hasName (F := F) (g := σ) (tm := Dtm D) (a := 1) (b := 1) hF nn0 nn6 r6.2.1 (fun m x y => ⟨(r6.2.2.2 m x y).2.1, by have := r5.2.2.2.2.2 m x y; omega⟩) (by omega) (by omega) (by omega) (by omega)
    have hn3 := c_hasName (F := F) (g := σ) (tm := Dtm D) (a := 3) (b := 4000) hF nn0 nn6 r6.2.1 (fun m x y => ⟨(r6.2.2.2 m x y).2.1, by have := r5.2.2.2.2.2 m x y; omega⟩) (by omega) (by omega) (by omega) (by omega)
    have ref6 : Option.bind (f_X6_refuse (6 : Int32) σ) (fun s7 => some s7) = some (seti (seti σ 1 4 (I 6)) 1 7 (I (kS K k))) := by
      rw [show f_X6_refuse (6 : Int32) σ = _ from c_refuse (c := 6) r1]; rfl
    by_cases good : Bro B (16 * sk 0 + sk 1) = -1 ∧ ∀ i, 0 ≤ i → i < Dnn D → Dtm D i = 2
    · have x9 : f_X1_hasNameStanding F (1 : Int32) (1 : Int32) σ = some (I 0) := hn1.2 (fun m x y => by rw [good.2 m x y]; omega)
      have x11 : f_X1_hasNameStanding F (3 : Int32) (4000 : Int32) σ = some (I 0) := hn3.2 (fun m x y => by rw [good.2 m x y]; omega)
      have a2 : Al2 D := fun m a b => by rw [good.2 m a b]; exact Int.le_refl _
      obtain ⟨r, Ou, S1, S2, S3, S4⟩ := rul_sheet hV r5 good.2 (fun s a b => (hs s a b).1) r7 (hJ trivial a2)
      obtain ⟨far, hfar⟩ := far_ex S1
      have hCH : CH B D Ou r far sk true σ := ⟨S1, S2, hfar, S3, rel_kc E r3, r6.1, r6.2.1, r6.2.2.1, r9, fun _ s a b => (hs s a b).2.1⟩
      have hMH : MH B D Ou r far sk true τ := ⟨S1, S2, hfar, S4, rel_km E r4, r7.1, r7.2.2.1, fun a x y => (r7.2.2.2.1 a x y).1, fun _ s a b => (hs s a b).2.2⟩
      have hmk0 : MkC D σ (fun _ => False) := fun v v0 v1 => ⟨fun q => by rcases q with q | q <;> exact q.elim, fun _ => (r6.2.2.2 v v0 v1).2.2⟩
      obtain ⟨g1, C1, C2⟩ := c_agents hF hCH hmk0
      obtain ⟨u1, ac1, D1, D2, D3, D4, D5⟩ := m_fitAll hF hMH
      obtain ⟨u2, ac2, E1, E2, E3, E4, E5⟩ := m_fitSides hF (mh35 hMH D2) rfl D5
      have g1fr : FrUc σ g1 := ⟨fun c q => C1.2 c (by omega), fun j _ _ _ => by rw [C1.2 1 (by omega)], by rw [C1.2 9 (by omega)], fun c _ _ => by rw [C1.1]⟩
      have F2u := fr35_tr D2 E2
      have u2fr : FrUm τ u2 := ⟨fun c q => F2u.2 c (by omega), fun j _ => by rw [F2u.2 0 (by omega)], fun c _ _ => by rw [F2u.1], fun j _ => by rw [F2u.1]⟩
      have at1 : AtC K N k g1 := atc_fr r1 (fun c q => C1.2 c (by omega)) (fun c q => by rw [C1.1])
      have a1 := hacc.mpr good.2
      -- the reference's way so far
      have mfail : ¬ (ac2 = 1 ∧ ac1 = 1) → jp14 F τ = some (I 0, seti (seti u2 0 35 (I 7)) 0 2 (I (kS K k))) := by
        intro hq
        unfold jp14
        rw [show (59 : Int32) = I 59 from rfl, e59, if_pos t59, Option.bind_some, if_neg (show ¬ (I 1 = (0 : Int32)) by decide), A1', Option.bind_some, m320, Option.bind_some, m321, Option.bind_some, e16, if_pos i25, x25, tbl.2, if_pos ⟨by rw [good.1]; decide, by rw [a1]; decide⟩, D1, Option.bind_some, E1, Option.bind_some, if_pos (by
          show I ac2 = 0 ∨ I ac1 = 0
          rcases E3 with q | q
          · left; rw [q]; rfl
          · rcases D3 with w | w
            · right; rw [w]; rfl
            · exact absurd ⟨q, w⟩ hq)]
        exact mS 7 u2 (by rw [F2u.2 0 (by omega)])
      have cpre : ∀ Y, (Option.bind (f_X6_agentsFit F σ) fun x13 => if x13.1 = 0 then (Option.bind (f_X6_refuse (7 : Int32) x13.2) fun s16 => some s16) else (Option.bind (f_X6_slotsFit F x13.2) fun x18 => if x18.1 = 0 then (Option.bind (f_X6_refuse (7 : Int32) x18.2) fun s16 => some s16) else (Option.bind (f_X8_add (I (sk 0)) (I (sk 1)) x18.2) fun x20 => Option.bind (f_X6_storeRule F x20.1 x20.2) fun s21 => Option.bind (f_X9_advance s21) fun s22 => some s22))) = Y → f_X6_endRule F σ = Y := by
        intro Y hY
        unfold f_X6_endRule
        rw [c80, Option.bind_some, c81, Option.bind_some, if_pos g59, rfor, Option.bind_some, Option.bind_some, good.1, if_pos (show I (-1) = (-1 : Int32) from rfl), x9, Option.bind_some, if_pos (show I 0 = (0 : Int32) from rfl), x11, Option.bind_some, if_pos (show I 0 = (0 : Int32) from rfl)]
        exact hY
      rcases C2 with ⟨F1, F2, F3⟩ | ⟨F1, F2⟩
      · have hCH1 := ch7 hCH C1
        obtain ⟨g2, G1, G2⟩ := c_slots hF hCH1 rfl F 0 (fun z => False ∨ ∃ t, Agv B D t ∧ Pw D r far t z) g1 (by omega) (by omega) (by omega) ⟨rfl, fun _ _ => rfl⟩ F3
        have e0 : ∀ t, (Ou t ∧ 0 ≤ pt t - 1720) ↔ Ou t := fun t => ⟨fun q => q.1, fun q => ⟨q, (ou_slv S1 q).2.1⟩⟩
        have f12 := fr7_tr C1 G1
        have g2fr : FrUc σ g2 := ⟨fun c q => f12.2 c (by omega), fun j _ _ _ => by rw [f12.2 1 (by omega)], by rw [f12.2 9 (by omega)], fun c _ _ => by rw [f12.1]⟩
        have at2 : AtC K N k g2 := atc_fr r1 (fun c q => f12.2 c (by omega)) (fun c q => by rw [f12.1])
        rcases G2 with ⟨H1, H2, H3⟩ | ⟨H1, H2⟩
        · right
          have ac1e : ac1 = 1 := D4.mpr F1
          have ac2e : ac2 = 1 := E4.mpr (fun t q => H1 t ((e0 t).mpr q))
          have hCH2 := ch7 hCH f12
          have hPth : ∀ z, ((False ∨ ∃ t, Agv B D t ∧ Pw D r far t z) ∨ ∃ t, (Ou t ∧ 0 ≤ pt t - 1720) ∧ Pw D r far t z) ↔ (Pth B D Ou r far z ∨ False) := fun z => by
            constructor
            · rintro ((q | ⟨t, q, w⟩) | ⟨t, q, w⟩)
              · exact q.elim
              · exact Or.inl ⟨t, Or.inl q, w⟩
              · exact Or.inl ⟨t, Or.inr q.1, w⟩
            · rintro (⟨t, q | q, w⟩ | q)
              · exact Or.inl (Or.inr ⟨t, q, w⟩)
              · exact Or.inr ⟨t, (e0 t).mpr q, w⟩
              · exact q.elim
          have mk2 : MkC D g2 (fun z => Pth B D Ou r far z ∨ False) := mkc_iff H3 (fun v _ _ => by
            unfold NmM
            exact or_congr (hPth _) (hPth _))
          -- the class adds the rule
          have c19 : g2.1 19 7 = I (Brn B) := by rw [f12.2 19 (by omega)]; exact hRC.1
          obtain ⟨gA, egA⟩ : ∃ gA, gA = seti (seti (seti (seti (seti (seti g2 20 (16 * sk 0 + sk 1).toNat (I (Brn B))) 20 (16 * sk 1 + sk 0).toNat (I (Brn B))) 21 (Brn B).toNat (I (sk 0))) 22 (Brn B).toNat (I 0)) 23 (Brn B).toNat (I 0)) 19 7 (I (Brn B + 1)) := ⟨_, rfl⟩
          have cadd : f_X8_add (I (sk 0)) (I (sk 1)) g2 = some (I (Brn B), gA) := by
            unfold f_X8_add f_X8_isFull f_X11_isInside
            have c0 : (0 : Int32) ≤ I (sk 0) ∧ I (sk 0) < (16 : Int32) := ⟨(Ile' (0) (0) (by omega) (by omega) (by omega) (by omega)).mpr s0.1.1, (Ilt (16) (16) (by omega) (by omega) (by omega) (by omega)).mpr (by omega)⟩
            have c1 : (0 : Int32) ≤ I (sk 1) ∧ I (sk 1) < (16 : Int32) := ⟨(Ile' (0) (0) (by omega) (by omega) (by omega) (by omega)).mpr s1.1.1, (Ilt (16) (16) (by omega) (by omega) (by omega) (by omega)).mpr (by omega)⟩
            have m0 : I (sk 0) * (16 : Int32) + I (sk 1) = I (16 * sk 0 + sk 1) := by rw [show (16 : Int32) = I 16 from rfl, I_mul, I_add, show sk 0 * 16 + sk 1 = 16 * sk 0 + sk 1 by omega]
            have m1 : I (sk 1) * (16 : Int32) + I (sk 0) = I (16 * sk 1 + sk 0) := by rw [show (16 : Int32) = I 16 from rfl, I_mul, I_add, show sk 1 * 16 + sk 0 = 16 * sk 1 + sk 0 by omega]
            have i60 : inb (I (Brn B)) 60 = true := (I_inb (by omega) (by omega)).mpr ⟨by omega, by omega⟩
            have x60 : ix (I (Brn B)) = (Brn B).toNat := I_ix (by omega) (by omega)
            have f19 : (seti (seti (seti (seti (seti g2 20 (16 * sk 0 + sk 1).toNat (I (Brn B))) 20 (16 * sk 1 + sk 0).toNat (I (Brn B))) 21 (Brn B).toNat (I (sk 0))) 22 (Brn B).toNat (0 : Int32)) 23 (Brn B).toNat (0 : Int32)).1 19 7 = I (Brn B) := by rw [seti_r (by omega), seti_r (by omega), seti_r (by omega), seti_r (by omega), seti_r (by omega)]; exact c19
            rw [c19, if_neg (fun q => by have := (Ile' (60) (60) (by omega) (by omega) (by omega) (by omega)).mp q; omega), Option.bind_some, if_pos c0, if_pos c1, if_pos ⟨rfl, by decide, by decide⟩, Option.bind_some, m0, if_pos i25, x25, Option.bind_some, m1, if_pos i25', x25', Option.bind_some, if_pos i60, x60, Option.bind_some, if_pos i60, Option.bind_some, if_pos i60, Option.bind_some, f19, show I (Brn B) + (1 : Int32) = I (Brn B + 1) by rw [show (1 : Int32) = I 1 from rfl, I_add], Option.bind_some, egA]
            rfl
          have frA : ∀ c, c ≠ 19 → c ≠ 20 → c ≠ 21 → c ≠ 22 → c ≠ 23 → gA.1 c = g2.1 c := fun c a b d e f => by rw [egA, seti_r a, seti_r f, seti_r e, seti_r d, seti_r b, seti_r b]
          have hCHA : CH B D Ou r far sk true gA := ch_fr hCH2 (fun c q => frA c (by omega) (by omega) (by omega) (by omega) (by omega)) (by rw [egA]; rfl)
          have A19 : gA.1 19 7 = I (Brn B + 1) := by rw [egA, seti1, if_pos ⟨rfl, rfl⟩]
          have A22 : gA.1 22 (Brn B).toNat = I 0 := by rw [egA, seti_r (by omega), seti_r (by omega), seti1, if_pos ⟨rfl, rfl⟩]
          have hMa : ∀ t z, Agv B D t → Pw D r far t z → (fun z => Pth B D Ou r far z ∨ False) z := fun t z a b => Or.inl ⟨t, Or.inl a, b⟩
          have hMo : ∀ t z, Ou t → Pw D r far t z → (fun z => Pth B D Ou r far z ∨ False) z := fun t z a b => Or.inl ⟨t, Or.inr a, b⟩
          obtain ⟨g3, J1, J2⟩ := c_sr2 hF hCHA na2 rn0 r60 A19 hMa F 0 gA (by omega) na0 (by omega) ⟨fun _ _ _ _ _ => rfl, rfl, fun _ _ _ => rfl, A22, fun j _ => by rw [if_neg (by omega)], fun _ _ _ => rfl, fun a' p x y => by omega, fun v v0 v1 => by rw [frA 7 (by omega) (by omega) (by omega) (by omega) (by omega)]; exact mk2 v v0 v1⟩
          obtain ⟨I1, I2, I3, I4, I5, I6, I7, I8⟩ := J2
          have hCH3 : CH B D Ou r far sk true g3 := ch_fr hCHA (fun c q => I1 c (by omega) (by omega) (by omega) (by omega)) (by rw [I2])
          have g319 : g3.1 19 7 = I (Brn B + 1) := by rw [I1 19 (by omega) (by omega) (by omega) (by omega)]; exact A19
          obtain ⟨g4, L1, L2, L3, L4, L5, L6⟩ := c_sr104 hF hCH3 rn0 r60 g319 hMo F 0 g3 (by omega) (by omega) (by omega) rfl (fun _ _ _ => rfl) I8 (fun _ _ _ => rfl) (fun u x y => by omega)
          have hCH4 : CH B D Ou r far sk true g4 := ch_fr hCH3 (fun c q => L3 c (by omega) (by omega)) (by rw [L2])
          obtain ⟨g5, M1, M2⟩ := c_rings hF hCH4 F (Dnn D).toNat 0 0 (fun _ => False) g4 (by omega) (by omega) (by omega) ⟨rfl, fun _ _ => rfl⟩ (fun a _ q => q.elim) L4
          obtain ⟨R, eR⟩ : ∃ R, R = rgN r tw (Usd B D Ou r far) (Dnn D).toNat 0 (fun _ => False) := ⟨_, rfl⟩
          rw [← eR] at M1
          have g519 : g5.1 19 7 = I (Brn B + 1) := by rw [M2.2 19 (by omega), L3 19 (by omega) (by omega)]; exact g319
          have csr : f_X8_setRings (I (Brn B)) (I (0 + R)) g5 = some (seti g5 23 (Brn B).toNat (I (0 + R))) := by
            unfold f_X8_setRings
            rw [c_rhas rn0 r60 g519, Option.bind_some, if_neg (show ¬ ((1 : Int32) = 0) by decide), if_pos ((I_inb (by omega) (by omega)).mpr ⟨by omega, by omega⟩ : inb (I (Brn B)) 60 = true), show ix (I (Brn B)) = (Brn B).toNat from I_ix (by omega) (by omega), Option.bind_some]
          obtain ⟨g6, eg6⟩ : ∃ g6, g6 = seti g5 23 (Brn B).toNat (I (0 + R)) := ⟨_, rfl⟩
          have stR : f_X6_storeRule F (I (Brn B)) gA = some g6 := by
            unfold f_X6_storeRule f_X1_countRings
            rw [show f_X6_storeRule_L2 F (I (Brn B)) F (0 : Int32) gA = _ from J1, Option.bind_some, show f_X6_storeRule_L104 F (I (Brn B)) F (0 : Int32) g3 = _ from L1, Option.bind_some, show f_X1_countRings_L4 F F (0 : Int32) (0 : Int32) g4 = _ from M1, Option.bind_some, Option.bind_some, csr, Option.bind_some, eg6]
          have fr6 : ∀ c, c ≠ 7 → c ≠ 19 → c ≠ 20 → c ≠ 21 → c ≠ 22 → c ≠ 23 → c ≠ 24 → c ≠ 25 → c ≠ 26 → g6.1 c = g2.1 c := fun c a b d e f g i j l => by rw [eg6, seti_r g, M2.2 c a, L3 c a l, I1 c a f i j, frA c b d e f g]
          have fr62 : g6.2 = g2.2 := by rw [eg6, seti2, M2.1, L2, I2, egA]; rfl
          have at6 : AtC K N k g6 := atc_fr at2 (fun c q => fr6 c (by omega) (by omega) (by omega) (by omega) (by omega) (by omega) (by omega) (by omega) (by omega)) (fun c q => by rw [fr62])
          obtain ⟨g7, N1, N2, N3⟩ := c_adv at6.1 hK.1 (by omega) (by omega) at6.2.2.1 at6.2.2.2.1
          rw [hk2.1] at N3
          -- the reference
          have hMH2 := mh35 hMH F2u
          have hPm : ∀ z, ((∃ t, Agv B D t ∧ Pw D r far t z) ∨ ∃ t, Ou t ∧ Pw D r far t z) ↔ (Pth B D Ou r far z ∨ False) := fun z => by
            constructor
            · rintro (⟨t, q, w⟩ | ⟨t, q, w⟩)
              · exact Or.inl ⟨t, Or.inl q, w⟩
              · exact Or.inl ⟨t, Or.inr q, w⟩
            · rintro (⟨t, q | q, w⟩ | q)
              · exact Or.inl ⟨t, q, w⟩
              · exact Or.inr ⟨t, q, w⟩
              · exact q.elim
          obtain ⟨u3, O1, O2, M', O3⟩ := m_ringsM hF hMH2 (Dnn D).toNat F 0 0 (fun _ => False) u2 (by omega) (by omega) (by omega) ⟨rfl, fun _ _ => rfl⟩ (fun a _ q => q.elim) (mkm_iff E5 (fun z _ _ => hPm z))
          rw [← eR] at O1
          have O1' : f_X12_sheetRings_L6 F F (0 : Int32) (1000 : Int32) u2 = some (I (0 + R), u3) := O1
          have f3u := fr35_tr F2u O2
          have u241 : u2.1 0 41 = I (Brn B) := by rw [F2u.2 0 (by omega)]; exact hRM.1
          obtain ⟨u4, eu4⟩ : ∃ u4, u4 = seti (seti (seti (seti (seti (seti u3 26 (Brn B).toNat (I (0 + R))) 21 (16 * sk 0 + sk 1).toNat (I (Brn B))) 21 (16 * sk 1 + sk 0).toNat (I (Brn B))) 22 (2 * Brn B).toNat (I (sk 0))) 22 (2 * Brn B + 1).toNat (I (sk 1))) 23 (Brn B).toNat (I (Dna D)) := ⟨_, rfl⟩
          have fu4 : ∀ c, c ≠ 21 → c ≠ 22 → c ≠ 23 → c ≠ 26 → u4.1 c = u3.1 c := fun c a b d e => by rw [eu4, seti_r d, seti_r b, seti_r b, seti_r a, seti_r a, seti_r e]
          have fu42 : u4.2 = u3.2 := by rw [eu4]; rfl
          have hMH4 : MH B D Ou r far sk true u4 := mh_fr (mh35 hMH f3u) (fun c q => fu4 c (by omega) (by omega) (by omega) (by omega)) (by rw [fu42])
          have mk4 : MkM D u4 (fun z => Pth B D Ou r far z ∨ M' z) := fun z a b => by rw [fu4 35 (by omega) (by omega) (by omega) (by omega)]; exact O3 z a b
          have hMa4 : ∀ t z, Agv B D t → Pw D r far t z → (fun z => Pth B D Ou r far z ∨ M' z) z := fun t z a b => Or.inl ⟨t, Or.inl a, b⟩
          have hMo4 : ∀ t z, Ou t → Pw D r far t z → (fun z => Pth B D Ou r far z ∨ M' z) z := fun t z a b => Or.inl ⟨t, Or.inr a, b⟩
          obtain ⟨u5, P1, P2, P3, P4, P5, P6, P7⟩ := m_sr291 hF hMH4 na2 rn0 r60 hMa4 F 0 u4 (by omega) na0 (by omega) rfl (fun _ _ _ _ => rfl) mk4 (fun j _ => by rw [if_neg (by omega)]) (fun _ _ _ => rfl) (fun t q w => by have := q.1; omega)
          have hMH5 : MH B D Ou r far sk true u5 := mh_fr hMH4 (fun c q => P3 c (by omega) (by omega) (by omega)) (by rw [P2])
          obtain ⟨u6, Q1, Q2, Q3, Q4, Q5, Q6⟩ := m_sr392 hF hMH5 rn0 r60 hMo4 F 0 u5 (by omega) (by omega) (by omega) rfl (fun _ _ _ => rfl) P4 (fun _ _ _ => rfl) (fun t q w => by have := S1.2.2.2.2.1 t q; omega)
          have u641 : u6.1 0 41 = I (Brn B) := by rw [Q3 0 (by omega) (by omega), P3 0 (by omega) (by omega) (by omega), fu4 0 (by omega) (by omega) (by omega) (by omega), O2.2 0 (by omega)]; exact u241
          have i60 : inb (I (Brn B)) 60 = true := (I_inb (by omega) (by omega)).mpr ⟨by omega, by omega⟩
          have x60 : ix (I (Brn B)) = (Brn B).toNat := I_ix (by omega) (by omega)
          have e2 : (2 : Int32) * I (Brn B) = I (2 * Brn B) := by rw [show (2 : Int32) = I 2 from rfl, I_mul]
          have e21 : I (2 * Brn B) + (1 : Int32) = I (2 * Brn B + 1) := by rw [show (1 : Int32) = I 1 from rfl, I_add]
          have i12 : inb (I (2 * Brn B)) 120 = true := (I_inb (by omega) (by omega)).mpr ⟨by omega, by omega⟩
          have x12 : ix (I (2 * Brn B)) = (2 * Brn B).toNat := I_ix (by omega) (by omega)
          have i121 : inb (I (2 * Brn B + 1)) 120 = true := (I_inb (by omega) (by omega)).mpr ⟨by omega, by omega⟩
          have x121 : ix (I (2 * Brn B + 1)) = (2 * Brn B + 1).toNat := I_ix (by omega) (by omega)
          have u349 : (seti (seti (seti (seti (seti u3 26 (Brn B).toNat (I (0 + R))) 21 (16 * sk 0 + sk 1).toNat (I (Brn B))) 21 (16 * sk 1 + sk 0).toNat (I (Brn B))) 22 (2 * Brn B).toNat (I (sk 0))) 22 (2 * Brn B + 1).toNat (I (sk 1))).1 0 49 = I (Dna D) := by
            rw [seti_r (by omega), seti_r (by omega), seti_r (by omega), seti_r (by omega), seti_r (by omega), f3u.2 0 (by omega)]; exact r7.1
          have ref : jp14 F τ = some (I 1, seti u6 0 41 (I (Brn B + 1))) := by
            unfold jp14 f_X12_sheetRings
            rw [show (59 : Int32) = I 59 from rfl, e59, if_pos t59, Option.bind_some, if_neg (show ¬ (I 1 = (0 : Int32)) by decide), A1', Option.bind_some, m320, Option.bind_some, m321, Option.bind_some, e16, e16', if_pos i25, x25, tbl.2, if_pos ⟨by rw [good.1]; decide, by rw [a1]; decide⟩, D1, Option.bind_some, E1, Option.bind_some, if_neg (by
              show ¬ (I ac2 = 0 ∨ I ac1 = 0)
              rw [ac1e, ac2e]; decide), show u2.1 0 41 = _ from u241, Option.bind_some, O1', Option.bind_some, Option.bind_some, if_pos i60, x60, Option.bind_some, if_pos i25, Option.bind_some, if_pos i25', x25', Option.bind_some, e2, if_pos i12, x12, Option.bind_some, e21, if_pos i121, x121, Option.bind_some, if_pos i60, u349, Option.bind_some, ← eu4, show f_X12_readRule_L291 F (I (Brn B)) F (0 : Int32) u4 = _ from P1, Option.bind_some, show f_X12_readRule_L392 F (I (Brn B)) F (0 : Int32) u5 = _ from Q1, Option.bind_some, u641, show I (Brn B) + (1 : Int32) = I (Brn B + 1) by rw [show (1 : Int32) = I 1 from rfl, I_add], Option.bind_some]
            rfl
          have cls : f_X6_endRule F σ = some g7 := by
            apply cpre
            rw [F2, Option.bind_some, if_neg (show ¬ (I 1 = (0 : Int32)) by decide)]
            unfold f_X6_slotsFit
            rw [show f_X6_slotsFit_L2 F F (0 : Int32) (I 1, g1).2 = _ from H2, Option.bind_some, if_neg (show ¬ (I 1 = (0 : Int32)) by decide), show f_X8_add (I (sk 0)) (I (sk 1)) (I 1, g2).2 = _ from cadd, Option.bind_some, stR, Option.bind_some, N1]
            rfl
          -- cells of the class
          have c7 : ∀ c, c ≠ 9 → g7.1 c = g6.1 c := fun c x => N2.1 c x
          have c20 : ∀ j : Nat, g7.1 20 j = if j = (16 * sk 1 + sk 0).toNat then I (Brn B) else if j = (16 * sk 0 + sk 1).toNat then I (Brn B) else σ.1 20 j := fun j => by
            rw [c7 20 (by omega), eg6, seti_r (by omega), M2.2 20 (by omega), L3 20 (by omega) (by omega), I1 20 (by omega) (by omega) (by omega) (by omega), egA, seti_r (by omega), seti_r (by omega), seti_r (by omega), seti_r (by omega), seti1]
            by_cases e : j = (16 * sk 1 + sk 0).toNat
            · rw [if_pos ⟨rfl, e⟩, if_pos e]
            · rw [if_neg (fun q => e q.2), if_neg e, seti1]
              by_cases e' : j = (16 * sk 0 + sk 1).toNat
              · rw [if_pos ⟨rfl, e'⟩, if_pos e']
              · rw [if_neg (fun q => e' q.2), if_neg e', f12.2 20 (by omega)]
          have c21 : ∀ q : Int, 0 ≤ q → g7.1 21 q.toNat = if q = Brn B then I (sk 0) else σ.1 21 q.toNat := fun q q0 => by
            rw [c7 21 (by omega), eg6, seti_r (by omega), M2.2 21 (by omega), L3 21 (by omega) (by omega), I1 21 (by omega) (by omega) (by omega) (by omega), egA, seti_r (by omega), seti_r (by omega), seti_r (by omega), seti1]
            by_cases e : q = Brn B
            · rw [if_pos ⟨rfl, by rw [e]⟩, if_pos e]
            · rw [if_neg (by omega), if_neg e, seti_r (by omega), seti_r (by omega), f12.2 21 (by omega)]
          have c22 : ∀ q : Int, 0 ≤ q → g7.1 22 q.toNat = if q = Brn B then I (Dna D) else σ.1 22 q.toNat := fun q q0 => by
            rw [c7 22 (by omega), eg6, seti_r (by omega), M2.2 22 (by omega), L3 22 (by omega) (by omega)]
            by_cases e : q = Brn B
            · rw [if_pos e, e]; exact I4
            · rw [if_neg e, I3 q q0 e, egA, seti_r (by omega), seti_r (by omega), seti1, if_neg (by omega), seti_r (by omega), seti_r (by omega), seti_r (by omega), f12.2 22 (by omega)]
          have c23 : ∀ q : Int, 0 ≤ q → g7.1 23 q.toNat = if q = Brn B then I (0 + R) else σ.1 23 q.toNat := fun q q0 => by
            rw [c7 23 (by omega), eg6, seti1]
            by_cases e : q = Brn B
            · rw [if_pos ⟨rfl, by rw [e]⟩, if_pos e]
            · rw [if_neg (by omega), if_neg e, M2.2 23 (by omega), L3 23 (by omega) (by omega), I1 23 (by omega) (by omega) (by omega) (by omega), egA, seti_r (by omega), seti1, if_neg (by omega), seti_r (by omega), seti_r (by omega), seti_r (by omega), seti_r (by omega), f12.2 23 (by omega)]
          have c24 : ∀ j : Int, 0 ≤ j → g7.1 24 j.toNat = if 12 * Brn B ≤ j ∧ j < 12 * Brn B + Dna D then I (Dak D (j - 12 * Brn B)) else σ.1 24 j.toNat := fun j j0 => by
            rw [c7 24 (by omega), eg6, seti_r (by omega), M2.2 24 (by omega), L3 24 (by omega) (by omega), I5 j j0, frA 24 (by omega) (by omega) (by omega) (by omega) (by omega), f12.2 24 (by omega)]
          have c25 : g7.1 25 = g3.1 25 := by rw [c7 25 (by omega), eg6, seti_r (by omega), M2.2 25 (by omega), L3 25 (by omega) (by omega)]
          have c26 : g7.1 26 = g4.1 26 := by rw [c7 26 (by omega), eg6, seti_r (by omega), M2.2 26 (by omega)]
          -- cells of the reference
          have d0 : ∀ c, c ≠ 0 → (seti u6 0 41 (I (Brn B + 1))).1 c = u6.1 c := fun c x => seti_r x
          have d21 : ∀ j : Nat, u6.1 21 j = if j = (16 * sk 1 + sk 0).toNat then I (Brn B) else if j = (16 * sk 0 + sk 1).toNat then I (Brn B) else τ.1 21 j := fun j => by
            rw [Q3 21 (by omega) (by omega), P3 21 (by omega) (by omega) (by omega), eu4, seti_r (by omega), seti_r (by omega), seti_r (by omega), seti1]
            by_cases e : j = (16 * sk 1 + sk 0).toNat
            · rw [if_pos ⟨rfl, e⟩, if_pos e]
            · rw [if_neg (fun q => e q.2), if_neg e, seti1]
              by_cases e' : j = (16 * sk 0 + sk 1).toNat
              · rw [if_pos ⟨rfl, e'⟩, if_pos e']
              · rw [if_neg (fun q => e' q.2), if_neg e', seti_r (by omega), f3u.2 21 (by omega)]
          have d22 : ∀ q : Int, 0 ≤ q → u6.1 22 q.toNat = if q = 2 * Brn B + 1 then I (sk 1) else if q = 2 * Brn B then I (sk 0) else τ.1 22 q.toNat := fun q q0 => by
            rw [Q3 22 (by omega) (by omega), P3 22 (by omega) (by omega) (by omega), eu4, seti_r (by omega), seti1]
            by_cases e : q = 2 * Brn B + 1
            · rw [if_pos ⟨rfl, by rw [e]⟩, if_pos e]
            · rw [if_neg (by omega), if_neg e, seti1]
              by_cases e' : q = 2 * Brn B
              · rw [if_pos ⟨rfl, by rw [e']⟩, if_pos e']
              · rw [if_neg (by omega), if_neg e', seti_r (by omega), seti_r (by omega), seti_r (by omega), f3u.2 22 (by omega)]
          have d23 : ∀ q : Int, 0 ≤ q → u6.1 23 q.toNat = if q = Brn B then I (Dna D) else τ.1 23 q.toNat := fun q q0 => by
            rw [Q3 23 (by omega) (by omega), P3 23 (by omega) (by omega) (by omega), eu4, seti1]
            by_cases e : q = Brn B
            · rw [if_pos ⟨rfl, by rw [e]⟩, if_pos e]
            · rw [if_neg (by omega), if_neg e, seti_r (by omega), seti_r (by omega), seti_r (by omega), seti_r (by omega), seti_r (by omega), f3u.2 23 (by omega)]
          have d26 : ∀ q : Int, 0 ≤ q → u6.1 26 q.toNat = if q = Brn B then I (0 + R) else τ.1 26 q.toNat := fun q q0 => by
            rw [Q3 26 (by omega) (by omega), P3 26 (by omega) (by omega) (by omega), eu4, seti_r (by omega), seti_r (by omega), seti_r (by omega), seti_r (by omega), seti_r (by omega), seti1]
            by_cases e : q = Brn B
            · rw [if_pos ⟨rfl, by rw [e]⟩, if_pos e]
            · rw [if_neg (by omega), if_neg e, f3u.2 26 (by omega)]
          have d24 : ∀ j : Int, 0 ≤ j → u6.1 24 j.toNat = if 12 * Brn B ≤ j ∧ j < 12 * Brn B + Dna D then I (Dak D (j - 12 * Brn B)) else τ.1 24 j.toNat := fun j j0 => by
            rw [Q3 24 (by omega) (by omega), P5 j j0, fu4 24 (by omega) (by omega) (by omega) (by omega), f3u.2 24 (by omega)]
          have ero : ∀ j, Bro (addR B (sk 0) (sk 1) D far (I (0 + R))) j = if j = 16 * sk 0 + sk 1 ∨ j = 16 * sk 1 + sk 0 then Brn B else Bro B j := fun _ => rfl
          have era : ∀ q, Bra (addR B (sk 0) (sk 1) D far (I (0 + R))) q = if q = Brn B then Dna D else Bra B q := fun _ => rfl
          have ert : ∀ q t, Brt (addR B (sk 0) (sk 1) D far (I (0 + R))) q t = if q = Brn B then tol (far (ver t)) else Brt B q t := fun _ _ => rfl
          have erk : ∀ j, Brk (addR B (sk 0) (sk 1) D far (I (0 + R))) j = if 12 * Brn B ≤ j then Dak D (j - 12 * Brn B) else Brk B j := fun _ => rfl
          have ers : ∀ j, Brs (addR B (sk 0) (sk 1) D far (I (0 + R))) j = if j = 2 * Brn B then sk 0 else if j = 2 * Brn B + 1 then sk 1 else Brs B j := fun _ => rfl
          have err : ∀ q, Brr (addR B (sk 0) (sk 1) D far (I (0 + R))) q = if q = Brn B then I (0 + R) else Brr B q := fun _ => rfl
          have ern : Brn (addR B (sk 0) (sk 1) D far (I (0 + R))) = Brn B + 1 := rfl
          have ekn : Bkn (addR B (sk 0) (sk 1) D far (I (0 + R))) = Bkn B := rfl
          have tab : ∀ a b, 0 ≤ a → a < 16 → 0 ≤ b → b < 16 → g7.1 20 (16 * a + b).toNat = I (Bro (addR B (sk 0) (sk 1) D far (I (0 + R))) (16 * a + b)) ∧ u6.1 21 (16 * a + b).toNat = I (Bro (addR B (sk 0) (sk 1) D far (I (0 + R))) (16 * a + b)) := fun a b a0 a1 b0 b1 => by
            have := hRF.1 a b a0 a1 b0 b1
            have key : (if (16 * a + b).toNat = (16 * sk 1 + sk 0).toNat then I (Brn B) else if (16 * a + b).toNat = (16 * sk 0 + sk 1).toNat then I (Brn B) else I (Bro B (16 * a + b))) = I (if 16 * a + b = 16 * sk 0 + sk 1 ∨ 16 * a + b = 16 * sk 1 + sk 0 then Brn B else Bro B (16 * a + b)) := by
              by_cases e : 16 * a + b = 16 * sk 1 + sk 0
              · rw [if_pos (show (16 * a + b).toNat = (16 * sk 1 + sk 0).toNat by rw [e]), if_pos (show 16 * a + b = 16 * sk 0 + sk 1 ∨ 16 * a + b = 16 * sk 1 + sk 0 from Or.inr e)]
              · rw [if_neg (show ¬ ((16 * a + b).toNat = (16 * sk 1 + sk 0).toNat) by omega)]
                by_cases e' : 16 * a + b = 16 * sk 0 + sk 1
                · rw [if_pos (show (16 * a + b).toNat = (16 * sk 0 + sk 1).toNat by rw [e']), if_pos (show 16 * a + b = 16 * sk 0 + sk 1 ∨ 16 * a + b = 16 * sk 1 + sk 0 from Or.inl e')]
                · rw [if_neg (show ¬ ((16 * a + b).toNat = (16 * sk 0 + sk 1).toNat) by omega), if_neg (show ¬ (16 * a + b = 16 * sk 0 + sk 1 ∨ 16 * a + b = 16 * sk 1 + sk 0) by omega)]
            rw [c20, d21, ero, this.1, this.2, key]
            exact ⟨rfl, rfl⟩
          refine ⟨far, I (0 + R), g7, seti u6 0 41 (I (Brn B + 1)), cls, ref, t59, N3, ?_, ?_, ?_, ?_, ruv_add S1 S2 hfar na2 hRV r60, ?_, ?_, ⟨fun a b a0 a1 b0 b1 => ⟨(tab a b a0 a1 b0 b1).1, by rw [d0 21 (by omega)]; exact (tab a b a0 a1 b0 b1).2⟩, fun a b a0 a1 b0 b1 w => ?_⟩⟩
          · refine atm_fr r2 ?_ (fun j q => ?_) ?_
            · rw [d0 1 (by omega), Q3 1 (by omega) (by omega), P3 1 (by omega) (by omega) (by omega), fu4 1 (by omega) (by omega) (by omega) (by omega), f3u.2 1 (by omega)]
            · rw [seti1, if_neg (by omega), Q3 0 (by omega) (by omega), P3 0 (by omega) (by omega) (by omega), fu4 0 (by omega) (by omega) (by omega) (by omega), f3u.2 0 (by omega)]
            · rw [seti2, Q2, P2, fu42, f3u.1]
          · refine fruc_tr g2fr (fruc_tr (b := g6) ⟨fun c q => fr6 c (by omega) (by omega) (by omega) (by omega) (by omega) (by omega) (by omega) (by omega) (by omega), fun j _ _ _ => by rw [fr6 1 (by omega) (by omega) (by omega) (by omega) (by omega) (by omega) (by omega) (by omega) (by omega)], by rw [fr6 9 (by omega) (by omega) (by omega) (by omega) (by omega) (by omega) (by omega) (by omega) (by omega)], fun c _ _ => by rw [fr62]⟩ (fruc_d (frd_v N2)))
          · refine frum_tr (b := u6) ⟨fun c q => ?_, fun j q => ?_, fun c _ _ => ?_, fun j _ => ?_⟩ (frum_i (by omega))
            · rw [Q3 c (by omega) (by omega), P3 c (by omega) (by omega) (by omega), fu4 c (by omega) (by omega) (by omega) (by omega), f3u.2 c (by omega)]
            · rw [Q3 0 (by omega) (by omega), P3 0 (by omega) (by omega) (by omega), fu4 0 (by omega) (by omega) (by omega) (by omega), f3u.2 0 (by omega)]
            · rw [Q2, P2, fu42, f3u.1]
            · rw [Q2, P2, fu42, f3u.1]
          · rw [c7 1 (by omega), fr6 1 (by omega) (by omega) (by omega) (by omega) (by omega) (by omega) (by omega) (by omega) (by omega), f12.2 1 (by omega)]; exact r8
          · refine ⟨?_, fun a b a0 a1 b0 b1 => ?_, fun q q0 q1 => ?_, fun q i q0 q1 i0 i1 => ?_, fun q t q0 q1 ht t6 => ?_, fun q t q0 q1 ht t6 => ?_⟩
            · rw [c7 19 (by omega), eg6, seti_r (by omega)]; exact g519
            · exact (tab a b a0 (by rw [ekn] at a1; omega) b0 (by rw [ekn] at b1; omega)).1
            · rw [ern] at q1
              rw [c21 q q0, c22 q q0, c23 q q0, ers, era, err]
              by_cases e : q = Brn B
              · rw [if_pos e, if_pos e, if_pos e, if_pos (by omega), if_pos e, if_pos e]; exact ⟨rfl, rfl, rfl⟩
              · rw [if_neg e, if_neg e, if_neg e, if_neg (by omega), if_neg (by omega), if_neg e, if_neg e]
                exact hRC.2.2.1 q q0 (by omega)
            · rw [ern] at q1
              rw [era] at i1
              rw [c24 _ (by omega), erk]
              by_cases e : q = Brn B
              · rw [if_pos e] at i1
                rw [e, if_pos (by omega), if_pos (by omega)]
              · rw [if_neg e] at i1
                have := hRV.2.2.2.1 q q0 (by omega)
                rw [if_neg (by omega), if_neg (by omega)]
                exact hRC.2.2.2.1 q i q0 (by omega) i0 i1
            · rw [ern] at q1
              rw [c25, ert]
              by_cases e : q = Brn B
              · rw [e] at ht ⊢
                have hl := (rl_new (far := far) (R := I (0 + R)) S1 S2 na2 t).mp ht
                have ev : ver t = t := if_pos t6
                rw [ev] at hl
                have ag : Agv B D t := by
                  rcases hl.2.2 with w | w
                  · exact w
                  · have := S1.2.2.2.2.1 t w; omega
                have fd := hfar t (Or.inl ag) (ag_n ag)
                rw [if_pos rfl, ev, I7 (t / 5) (t % 5) (by omega) ag.2.2.1 (by omega) ag.2.2.2, show 5 * (t / 5) + t % 5 = t by omega, (fcd_r S1 fd.2.1 fd.2.2.1 na2).1]
                rfl
              · have ht' := (rl_old (B := B) (D := D) (far := far) (sk := sk) (R := I (0 + R)) q0 (by omega)).mp ht
                have t0 : 0 ≤ t := by
                  rcases ht' with w | w
                  · exact w.1
                  · omega
                rw [if_neg e, I6 _ (by omega) (by omega), frA 25 (by omega) (by omega) (by omega) (by omega) (by omega), f12.2 25 (by omega)]
                exact hRC.2.2.2.2.1 q t q0 (by omega) ht' t6
            · rw [ern] at q1
              rw [c26, ert]
              by_cases e : q = Brn B
              · rw [e] at ht ⊢
                have hl := (rl_new (far := far) (R := I (0 + R)) S1 S2 na2 t).mp ht
                have ev : ver t = 1200 + (t - 60) := if_neg (by omega)
                have ho : Ou (ver t) := by
                  rcases hl.2.2 with w | w
                  · rw [ev] at w; have := w.2.1; omega
                  · exact w
                have hb := S1.2.2.2.2.1 _ ho
                rw [ev] at hb ho
                have es : slv (4 * ((t - 60) / 5) + (t - 60) % 5 - 1) = 1200 + (t - 60) := by
                  unfold slv
                  rw [show 1200 + (t - 60) - 1200 = t - 60 by omega] at hb
                  omega
                rw [show 1200 + (t - 60) - 1200 = t - 60 by omega] at hb
                have fd := hfar _ (Or.inr (Or.inr ho)) (ou_n S1 ho)
                rw [if_pos rfl, ev, L6 _ (by omega) (by omega) (by rw [es]; exact ho), es, (fcd_r S1 fd.2.1 fd.2.2.1 na2).1]
                rfl
              · have ht' := (rl_old (B := B) (D := D) (far := far) (sk := sk) (R := I (0 + R)) q0 (by omega)).mp ht
                have tb : t < 70 ∧ 1 ≤ (t - 60) % 5 := by
                  rcases ht' with w | w
                  · omega
                  · omega
                rw [if_neg e, L5 _ (by omega) (by omega), I1 26 (by omega) (by omega) (by omega) (by omega), frA 26 (by omega) (by omega) (by omega) (by omega) (by omega), f12.2 26 (by omega)]
                exact hRC.2.2.2.2.2 q t q0 (by omega) ht' t6
          · rw [d0 21 (by omega), d0 22 (by omega), d0 23 (by omega), d0 24 (by omega), d0 25 (by omega), d0 26 (by omega)]
            refine ⟨?_, fun a b a0 a1 b0 b1 => ?_, fun q q0 q1 => ?_, fun q i q0 q1 i0 i1 => ?_, fun q t q0 q1 ht => ?_⟩
            · rw [seti1, if_pos ⟨rfl, rfl⟩]; rfl
            · exact (tab a b a0 (by rw [ekn] at a1; omega) b0 (by rw [ekn] at b1; omega)).2
            · rw [ern] at q1
              rw [d22 _ (by omega), d22 _ (by omega), d23 q q0, d26 q q0, ers, ers, era, err]
              by_cases e : q = Brn B
              · rw [e, if_neg (by omega), if_pos rfl, if_pos rfl, if_pos rfl, if_pos rfl, if_pos rfl, if_neg (by omega), if_pos rfl, if_pos rfl, if_pos rfl]; exact ⟨rfl, rfl, rfl, rfl⟩
              · rw [if_neg (by omega), if_neg (by omega), if_neg (by omega), if_neg (by omega), if_neg e, if_neg e, if_neg (by omega), if_neg (by omega), if_neg (by omega), if_neg (by omega), if_neg e, if_neg e]
                exact hRM.2.2.1 q q0 (by omega)
            · rw [ern] at q1
              rw [era] at i1
              rw [d24 _ (by omega), erk]
              by_cases e : q = Brn B
              · rw [if_pos e] at i1
                rw [e, if_pos (by omega), if_pos (by omega)]
              · rw [if_neg e] at i1
                have := hRV.2.2.2.1 q q0 (by omega)
                rw [if_neg (by omega), if_neg (by omega)]
                exact hRM.2.2.2.1 q i q0 (by omega) i0 i1
            · rw [ern] at q1
              rw [ert]
              by_cases e : q = Brn B
              · rw [e] at ht ⊢
                have hl := (rl_new (far := far) (R := I (0 + R)) S1 S2 na2 t).mp ht
                rw [if_pos rfl]
                by_cases t6 : t < 60
                · have ev : ver t = t := if_pos t6
                  rw [ev] at hl ⊢
                  have ag : Agv B D t := by
                    rcases hl.2.2 with w | w
                    · exact w
                    · have := S1.2.2.2.2.1 t w; omega
                  rw [Q5 _ (by omega) (by omega), P7 t ag]
                · have ev : ver t = 1200 + (t - 60) := if_neg t6
                  have ho : Ou (ver t) := by
                    rcases hl.2.2 with w | w
                    · rw [ev] at w; have := w.2.1; omega
                    · exact w
                  have := Q6 _ ho
                  rw [ev] at this ⊢
                  rw [show 70 * Brn B + 60 + (1200 + (t - 60) - 1200) = 70 * Brn B + t by omega] at this
                  exact this
              · have ht' := (rl_old (B := B) (D := D) (far := far) (sk := sk) (R := I (0 + R)) q0 (by omega)).mp ht
                have tb : 0 ≤ t ∧ t < 70 := by
                  rcases ht' with w | w
                  · omega
                  · omega
                rw [if_neg e, Q5 _ (by omega) (by omega), P6 _ (by omega) (by omega), fu4 25 (by omega) (by omega) (by omega) (by omega), f3u.2 25 (by omega)]
                exact hRM.2.2.2.2 q t q0 (by omega) ht'
          · have w' : Bkn B ≤ a ∨ Bkn B ≤ b := w
            rw [ero, if_neg (by omega)]
            exact hRF.2 a b a0 a1 b0 b1 w'
        · left
          have n2 : ac2 ≠ 1 := fun q => H1 (fun t w => E4.mp q t w.1)
          refine ⟨_, _, ?_, mfail (fun q => n2 q.1), fltu_go (z := kS K k) (c := 7) g2fr u2fr (by omega) (by omega)⟩
          apply cpre
          rw [F2, Option.bind_some, if_neg (show ¬ (I 1 = (0 : Int32)) by decide)]
          unfold f_X6_slotsFit
          rw [show f_X6_slotsFit_L2 F F (0 : Int32) (I 1, g1).2 = _ from H2, Option.bind_some, if_pos (show I 0 = (0 : Int32) from rfl), show f_X6_refuse (7 : Int32) (I 0, g2).2 = _ from c_refuse (c := 7) at2]
          rfl
      · left
        have n1 : ac1 ≠ 1 := fun q => F1 (D4.mp q)
        refine ⟨_, _, ?_, mfail (fun q => n1 q.2), fltu_go (z := kS K k) (c := 7) g1fr u2fr (by omega) (by omega)⟩
        apply cpre
        rw [F2, Option.bind_some, if_pos (show I 0 = (0 : Int32) from rfl), show f_X6_refuse (7 : Int32) (I 0, g1).2 = _ from c_refuse (c := 7) at1]
        rfl
    · left
      refine ⟨_, _, ?_, ?_, fltu_go (z := kS K k) (c := 6) (fruc_d (frd_rfl σ)) (frum_e (fre_rfl τ)) (by omega) (by omega)⟩
      · unfold f_X6_endRule
        rw [c80, Option.bind_some, c81, Option.bind_some, if_pos g59, rfor, Option.bind_some, Option.bind_some]
        by_cases w1 : Bro B (16 * sk 0 + sk 1) = -1
        · rw [w1, if_pos (show I (-1) = (-1 : Int32) from rfl)]
          have hex : ∃ m, 0 ≤ m ∧ m < Dnn D ∧ Dtm D m ≠ 2 := by
            by_cases q : ∃ m, 0 ≤ m ∧ m < Dnn D ∧ Dtm D m ≠ 2
            · exact q
            · exfalso
              apply good
              refine ⟨w1, fun m x y => ?_⟩
              by_cases z : Dtm D m = 2
              · exact z
              · exact absurd ⟨m, x, y, z⟩ q
          by_cases w2 : ∃ m, 0 ≤ m ∧ m < Dnn D ∧ 1 ≤ Dtm D m ∧ Dtm D m ≤ 1
          · rw [show f_X1_hasNameStanding F (1 : Int32) (1 : Int32) σ = _ from hn1.1 w2, Option.bind_some, if_neg (show ¬ (I 1 = (0 : Int32)) by decide)]
            exact ref6
          · rw [show f_X1_hasNameStanding F (1 : Int32) (1 : Int32) σ = _ from hn1.2 (fun m x y z => w2 ⟨m, x, y, z⟩), Option.bind_some, if_pos (show I 0 = (0 : Int32) from rfl), show f_X1_hasNameStanding F (3 : Int32) (4000 : Int32) σ = _ from hn3.1 (by
              obtain ⟨m, x, y, z⟩ := hex
              have := r5.2.2.2.2.2 m x y
              refine ⟨m, x, y, ?_, by omega⟩
              by_cases q : Dtm D m = 1
              · exact absurd ⟨m, x, y, by omega, by omega⟩ w2
              · omega), Option.bind_some, if_neg (show ¬ (I 1 = (0 : Int32)) by decide)]
            exact ref6
        · rw [if_neg (fun q => w1 ((Ieq (-1) (-1) (by omega) (by omega) (by omega) (by omega)).mp q))]
          exact ref6
      · unfold jp14
        rw [show (59 : Int32) = I 59 from rfl, e59, if_pos t59, Option.bind_some, if_neg (show ¬ (I 1 = (0 : Int32)) by decide), A1', Option.bind_some, m320, Option.bind_some, m321, Option.bind_some, e16, if_pos i25, x25, tbl.2, if_neg (by
          rintro ⟨w1, w2⟩
          apply good
          have w3 := (Ilt (0) (0) (by omega) (by omega) (by omega) (by omega)).mp w1
          refine ⟨by omega, hacc.mp ?_⟩
          rcases A2 with q | q
          · exfalso; apply w2; rw [q]; rfl
          · exact q)]
        exact mS 6 τ rfl
  · left
    have fg := fltu_go (z := kS K k) (fruc_d (frd_rfl σ)) (frum_e (fre_rfl τ)) (wc_b (kT K k)).1 (wc_b (kT K k)).2
    refine ⟨_, _, ?_, ?_, fg⟩
    · unfold f_X6_endRule
      rw [Option.bind_some, Option.bind_some, if_neg (fun q => by rw [gT] at q; exact t59 ((Ieq (59) (59) (by omega) (by omega) (by omega) (by omega)).mp q)), c_wrong hK r1]
      rfl
    · unfold jp14
      rw [show (59 : Int32) = I 59 from rfl, e59, if_neg t59, Option.bind_some, if_pos (show I 0 = (0 : Int32) from rfl), m_wrong hK r2]
      rfl
end RED
