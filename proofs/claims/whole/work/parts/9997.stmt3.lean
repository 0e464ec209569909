section STM5
variable {F : Nat} {n : Int} {ch : Int → Int} {K : TkT} {N : Int} {σ0 τ0 : St} {B : BkT} {k : Int} {σ τ : St}
theorem stmt_rule (hA : TxA n ch) (hK : Tks n ch K N) (hF : 10000 ≤ F) (h : RdS n ch K N σ0 τ0 B k σ τ) (hT : kT K k ≠ 1) : StO F n ch K N σ0 τ0 k (f_X6_readRule F σ) (f_X12_readRule F τ) := by
  obtain ⟨h1, h2, h3, h4, h5, h6, h7⟩ := h
  have n40 := hA.2.1
  have tN1 := hK.2.1
  have hk2 := (tks_T hK h1.2.1 h1.2.2.1).2.1 hT
  have hRV := h6.2.2.2.2.1
  have hRC := h6.2.2.2.2.2.1
  have hRM := h6.2.2.2.2.2.2.1
  have rn0 := hRV.1
  have rn1 := hRV.2.1
  by_cases r60 : Brn B = 60
  · left
    refine ⟨_, _, ?_, ?_, fltg_go (z := kS K k) (c := 4) h3 h4 (by omega) (by omega)⟩
    · unfold f_X6_readRule f_X8_isFull
      rw [hRC.1, if_pos (show (60 : Int32) ≤ I (Brn B) by rw [r60]; exact Int32.le_refl _), Option.bind_some, if_neg (show ¬ ((1 : Int32) = 0) by decide), show f_X6_refuse (4 : Int32) σ = _ from c_refuse (c := 4) h1]
      rfl
    · unfold f_X12_readRule
      rw [hRM.1, if_pos (show I (Brn B) = (60 : Int32) by rw [r60]; rfl), h2.2.2.2.2.1]
      rfl
  · -- the class begins
    obtain ⟨s4, A1, A2, A3⟩ := c_adv h1.1 hK.1 (by omega) (by have := h1.2.1; omega) h1.2.2.1 h1.2.2.2.1
    rw [hk2.1] at A3
    obtain ⟨s5, B1, B2, B3, B4, B5, B6⟩ := c_dclear hF s4
    obtain ⟨s6, e6⟩ : ∃ s6, s6 = seti s5 1 2 (1 : Int32) := ⟨_, rfl⟩
    have c6 : ∀ c, c ≠ 1 → c ≠ 2 → c ≠ 3 → c ≠ 9 → s6.1 c = σ.1 c := fun c a b d e => by rw [e6, seti_r a, B3 c b d, A2.1 c e]
    have c61 : ∀ j, j ≠ 2 → s6.1 1 j = σ.1 1 j := fun j a => by rw [e6, seti1, if_neg (by omega), B3 1 (by omega) (by omega), A2.1 1 (by omega)]
    have c62 : ∀ c, c ≠ 9 → s6.2 c = σ.2 c := fun c a => by rw [e6, seti2, B2, A2.2.2.1 c a]
    have at6 : AtC K N (k + 1) s6 := atc_fr' A3 (fun c q => by rw [e6, seti_r (by omega), B3 c (by omega) (by omega)]) (by rw [e6, seti1, if_neg (by omega), B3 1 (by omega) (by omega)]) (fun c q => by rw [e6, seti2, B2])
    have fr6 : FrUc σ s6 := ⟨fun c q => c6 c (by omega) (by omega) (by omega) (by omega), fun j a _ _ => c61 j a, by rw [e6, seti_r (by omega), B3 9 (by omega) (by omega), A2.2.1 6 (by omega) (by omega) (by omega)], fun c _ a => c62 c a⟩
    -- the reference begins
    obtain ⟨t4, e4⟩ : ∃ t4, t4 = seti (seti (seti τ 0 49 (0 : Int32)) 0 50 (12 : Int32)) 0 54 (0 : Int32) := ⟨_, rfl⟩
    have m4 : ∀ c, c ≠ 0 → t4.1 c = τ.1 c := fun c a => by rw [e4, seti_r a, seti_r a, seti_r a]
    have m40 : ∀ j, j ≠ 49 → j ≠ 50 → j ≠ 54 → t4.1 0 j = τ.1 0 j := fun j b c d => by rw [e4, seti1, if_neg (by omega), seti1, if_neg (by omega), seti1, if_neg (by omega)]
    have m42 : t4.2 = τ.2 := by rw [e4]; rfl
    have at4 : AtM n ch K N k t4 := atm_fr h2 (m4 1 (by omega)) (fun j q => m40 j (by omega) (by omega) (by omega)) (by rw [m42])
    obtain ⟨t5, C1, C2, C3⟩ := m_take_nx hA hF hK at4
    rw [hk2.1] at C3
    have fr5 : FrUm τ t5 := frum_tr (b := t4) ⟨fun c q => m4 c (by omega), fun j q => m40 j (by omega) (by omega) (by omega), fun c _ _ => by rw [m42], fun j _ => by rw [m42]⟩ (frum_e (fre_t C2))
    have t50 : ∀ j, j ≠ 29 → j ≠ 30 → j ≠ 31 → j ≠ 33 → j ≠ 34 → t5.1 0 j = t4.1 0 j := C2.2.1
    have bk6 : ∀ g u, FrD s6 g → FrE t5 u → BkS B g u := fun g u a b => by
      refine bks_fr h6 (fun c q => ?_) ?_ (fun c q => ?_) (fun j q => ?_) ?_
      · rw [a.1 c (by omega), c6 c (by omega) (by omega) (by omega) (by omega)]
      · rw [a.2.2.2 16 (by omega) (by omega), c62 16 (by omega)]
      · rw [b.1 c (by omega), C2.1 c (by omega), m4 c (by omega)]
      · rw [b.2.1 j (by omega), t50 j (by omega) (by omega) (by omega) (by omega) (by omega), m40 j (by omega) (by omega) (by omega)]
      · rw [b.2.2.1 17 (by omega) (by omega), C2.2.2.1 17 (by omega), m42]
    have hbk := bk6 s6 t5 (frd_rfl _) (fre_rfl _)
    have E : EnvH F n ch K N B 12 s6 t5 := ⟨hA, hK, hF, hbk.1, hbk.2.1, hbk.2.2.1, hbk.2.2.2.1, Or.inl rfl⟩
    have hrel : Rel n ch K N B 12 s6 t5 (k + 1) (k + 1) D00 s6 t5 := by
      refine rel00 (Or.inl rfl) at6 C3 ?_ ?_ ?_ ?_ ?_ ?_ ?_
      · rw [e6, seti_r (by omega)]; exact B4
      · rw [e6, seti_r (by omega)]; exact B5
      · rw [t50 49 (by omega) (by omega) (by omega) (by omega) (by omega), e4, seti1, if_neg (by omega), seti1, if_neg (by omega), seti1, if_pos ⟨rfl, rfl⟩]; rfl
      · rw [t50 50 (by omega) (by omega) (by omega) (by omega) (by omega), e4, seti1, if_neg (by omega), seti1, if_pos ⟨rfl, rfl⟩]; rfl
      · rw [t50 54 (by omega) (by omega) (by omega) (by omega) (by omega), e4, seti1, if_pos ⟨rfl, rfl⟩]; rfl
      · rw [c61 4 (by omega)]; exact h5
      · rw [e6, seti1, if_pos ⟨rfl, rfl⟩]; rfl
    have flt : ∀ σ' τ', Flt s6 t5 σ' τ' → FltG σ0 τ0 σ' τ' := fun σ' τ' q => ⟨frr_tr h3 (frr_u (fruc_tr fr6 (fruc_d q.1))), frq_tr h4 (frq_u (frum_tr fr5 (frum_e q.2.1))), q.2.2⟩
    -- how both go on
    have cls : f_X6_readRule F σ = (Option.bind (f_X6_readSide F (0 : Int32) s6) fun s6 => Option.bind (if (s6.1 (1) 4) = 0 then (Option.bind (f_X6_pass (4 : Int32) s6) fun s9 => some s9) else some s6) fun t7 => Option.bind (if (t7.1 (1) 4) = 0 then (Option.bind (f_X6_readSide F (1 : Int32) t7) fun s12 => some s12) else some t7) fun t10 => Option.bind (if ((t10.1 (1) 4) = 0) ∧ ((t10.1 (9) 7) = (58 : Int32)) then (Option.bind (f_X9_advance t10) fun s14 => Option.bind (f_X6_readLinks F s14) fun s15 => some s15) else some t10) fun t13 => if (t13.1 (1) 4) = 0 then (Option.bind (f_X6_endRule F t13) fun s21 => some s21) else some t13) := by
      unfold f_X6_readRule f_X8_isFull
      rw [hRC.1, if_neg (show ¬ ((60 : Int32) ≤ I (Brn B)) from fun q => by have := (Ile' (60) (60) (by omega) (by omega) (by omega) (by omega)).mp q; omega), Option.bind_some, if_pos rfl, A1, Option.bind_some, B1, Option.bind_some, Option.bind_some, ← e6]
    have ref : f_X12_readRule F τ = (Option.bind (f_X12_readSide F (0 : Int32) t5) fun x6 => if x6.1 = 0 then some ((0 : Int32), x6.2) else (if (x6.2.1 (0) 29) = (4 : Int32) then (Option.bind (f_X12_take F x6.2) fun s9 => Option.bind (f_X12_readSide F (1 : Int32) s9) fun x10 => if x10.1 = 0 then some ((0 : Int32), x10.2) else (Option.bind (some (f_X12_isSign (58 : Int32) x10.2)) fun x12 => if x12 = 0 then jp14 F x10.2 else (Option.bind (f_X12_take F x10.2) fun s96 => Option.bind (f_X12_readLinks F s96) fun x97 => if x97.1 = 0 then some ((0 : Int32), x97.2) else jp14 F x97.2))) else (Option.bind (f_X12_wrong x6.2) fun x99 => if x99.1 = 0 ∨ x99.1 = 1 then some (x99.1, x99.2) else none))) := by
      unfold f_X12_readRule f_X12_beginSheet
      rw [hRM.1, if_neg (show ¬ (I (Brn B) = (60 : Int32)) from fun q => r60 ((Ieq (60) (60) (by omega) (by omega) (by omega) (by omega)).mp q)), Option.bind_some, Option.bind_some, Option.bind_some, Option.bind_some, ← e4, C1, Option.bind_some]
      rfl
    rw [cls, ref]
    rcases side_ok E (s := 0) (by omega) (by omega) hrel with ⟨σ1, τ1, a1, a2, a3⟩ | ⟨z0, k1, D1, σ1, τ1, a0, a1, a2, a3, a4, a5, a6, a7⟩
    · left
      have ne' := flt_ne a3
      refine ⟨σ1, τ1, ?_, ?_, flt _ _ a3⟩
      · rw [show f_X6_readSide F (0 : Int32) s6 = _ from a1, Option.bind_some, if_neg ne', Option.bind_some, if_neg ne', Option.bind_some, if_neg (fun q => ne' q.1), Option.bind_some, if_neg ne']
      · rw [show f_X12_readSide F (0 : Int32) t5 = _ from a2, Option.bind_some, if_pos (show I 0 = (0 : Int32) from rfl)]; rfl
    · have f1 : σ1.1 1 4 = (0 : Int32) := a3.2.2.2.2.2.2.2.1
      have tt1 := tks_T hK a3.1.2.1 a3.1.2.2.1
      have mt1 := mty_c tt1.1
      have mT1 : τ1.1 0 29 = I (mty (kT K k1)) := a3.2.1.2.2.2.1
      rw [show f_X6_readSide F (0 : Int32) s6 = _ from a1, Option.bind_some, if_pos f1, show f_X12_readSide F (0 : Int32) t5 = _ from a2, Option.bind_some, if_neg (show ¬ (I 1 = (0 : Int32)) by decide)]
      have cp := c_pss E (c := 4) (by omega) (by omega) a3
      by_cases t4' : kT K k1 = 4
      · obtain ⟨σ2, b1, b2, b3⟩ := cp.1 t4'
        obtain ⟨τ2, d1, d2, d3⟩ := rel_take E b3
        rw [(tt1.2.1 (by rw [t4']; decide)).1] at d3
        have f2 : σ2.1 1 4 = (0 : Int32) := d3.2.2.2.2.2.2.2.1
        rw [show f_X6_pass (4 : Int32) σ1 = _ from b1, Option.bind_some, Option.bind_some, if_pos f2, if_pos (show τ1.1 0 29 = (4 : Int32) by rw [mT1, mt1.2.2.1.mpr t4']; rfl), d1, Option.bind_some]
        rcases side_ok E (s := 1) (by omega) (by omega) d3 with ⟨σ3, τ3, g1, g2, g3⟩ | ⟨z1, k3, D3, σ3, τ3, g0, g1, g2, g3, g4, g5, g6, g7⟩
        · left
          have ne' := flt_ne g3
          refine ⟨σ3, τ3, ?_, ?_, flt _ _ g3⟩
          · rw [show f_X6_readSide F (1 : Int32) σ2 = _ from g1, Option.bind_some, Option.bind_some, if_neg (fun q => ne' q.1), Option.bind_some, if_neg ne']
          · rw [show f_X12_readSide F (1 : Int32) τ2 = _ from g2, Option.bind_some, if_pos (show I 0 = (0 : Int32) from rfl)]; rfl
        · obtain ⟨sk, hsk⟩ : ∃ sk : Int → Int, ∀ s, sk s = if s = 0 then z0 else z1 := ⟨_, fun _ => rfl⟩
          have sk0 : sk 0 = z0 := by rw [hsk, if_pos rfl]
          have sk1 : sk 1 = z1 := by rw [hsk, if_neg (by omega)]
          have p0 := (E.2.2.2.1).2.2.1 z0 a5.1 a5.2
          have p1 := (E.2.2.2.1).2.2.1 z1 g5.1 g5.2
          -- what is joined
          have j1 := a7 True (fun _ => False) (fun x q => q.elim) (fun p x y q => q) (fun _ _ => jr00)
          have j1' : JG True D1 (fun x => False ∨ (Vx B D1 x ∧ ¬ Vx B D00 x) ∨ (1200 + 5 * 0 < x ∧ x < 1200 + 5 * 0 + Bpt B z0)) σ2 τ2 := jg_fr j1 (b2.1 3 (by omega)) (d2.1 29 (by omega))
          have j2 := g7 True _ (fun x q => by
            rcases q with q | q | q
            · exact q.elim
            · exact Or.inl q.1
            · exact Or.inr (by omega)) (fun p x y q => by
            rcases q with q | q | q
            · exact q.elim
            · have := (vx_ok q.1).2; omega
            · omega) j1'
          have s8 : ∀ s, 0 ≤ s → s ≤ 1 → σ3.1 8 s.toNat = I (sk s) ∧ τ3.1 32 s.toNat = I (sk s) := fun s x y => by
            by_cases e : s = 0
            · rw [e, sk0]
              refine ⟨?_, ?_⟩
              · rw [g6.1, seti1, if_neg (by decide), b2.1 8 (by omega), a6.1, seti1, if_pos ⟨rfl, rfl⟩]
              · rw [g6.2, seti1, if_neg (by decide), d2.1 32 (by omega), a6.2, seti1, if_pos ⟨rfl, rfl⟩]
            · have e1 : s = 1 := by omega
              rw [e1, sk1]
              exact ⟨by rw [g6.1, seti1, if_pos ⟨rfl, rfl⟩], by rw [g6.2, seti1, if_pos ⟨rfl, rfl⟩]⟩
          have all : ∀ (D' : DrT) (σ' τ' : St), DXt D3 D' → (∀ (G : Prop) (A : Int → Prop), Low B D3 A → JG G D3 A σ3 τ3 → JG G D' (fun x => A x ∨ (Vx B D' x ∧ ¬ Vx B D3 x)) σ' τ') → JG True D' (fun x => Vx B D' x ∨ (1200 ≤ x ∧ x < 1210 ∧ 1 ≤ (x - 1200) % 5 ∧ (x - 1200) % 5 < Bpt B (sk ((x - 1200) / 5)))) σ' τ' := by
            intro D' σ' τ' hx hh
            have j3 := hh True _ (fun x q => by
              rcases q with (q | q | q) | q | q
              · exact q.elim
              · exact Or.inl (dx_v g4 q.1)
              · exact Or.inr (by omega)
              · exact Or.inl q.1
              · exact Or.inr (by omega)) j2
            intro hg ha
            refine jr_iff (j3 hg ha) (fun x => ?_)
            constructor
            · rintro (q | q)
              · by_cases w : Vx B D3 x
                · by_cases w1 : Vx B D1 x
                  · exact Or.inl (Or.inl (Or.inr (Or.inl ⟨w1, vx00 x⟩)))
                  · exact Or.inl (Or.inr (Or.inl ⟨w, w1⟩))
                · exact Or.inr ⟨q, w⟩
              · by_cases e : (x - 1200) / 5 = 0
                · rw [e, sk0] at q
                  exact Or.inl (Or.inl (Or.inr (Or.inr (by omega))))
                · have e1 : (x - 1200) / 5 = 1 := by omega
                  rw [e1, sk1] at q
                  exact Or.inl (Or.inr (Or.inr (by omega)))
            · rintro (((q | q | q) | q | q) | q)
              · exact q.elim
              · exact Or.inl (dx_v hx (dx_v g4 q.1))
              · right
                have e : (x - 1200) / 5 = 0 := by omega
                rw [e, sk0]; omega
              · exact Or.inl (dx_v hx q.1)
              · right
                have e : (x - 1200) / 5 = 1 := by omega
                rw [e, sk1]; omega
              · exact Or.inl q.1
          -- the end
          have fin : ∀ (k' : Int) (D' : DrT) (σ' τ' : St), k < k' → Rel n ch K N B 12 s6 t5 k' k' D' σ' τ' → (σ'.1 8 = σ3.1 8 ∧ τ'.1 32 = τ3.1 32) → JG True D' (fun x => Vx B D' x ∨ (1200 ≤ x ∧ x < 1210 ∧ 1 ≤ (x - 1200) % 5 ∧ (x - 1200) % 5 < Bpt B (sk ((x - 1200) / 5)))) σ' τ' → StO F n ch K N σ0 τ0 k (f_X6_endRule F σ') (jp14 F τ') := by
            intro k' D' σ' τ' kk hr hs hj
            have f1 := fruc_tr fr6 (fruc_d hr.2.2.1)
            have f2 := frum_tr fr5 (frum_e hr.2.2.2.1)
            have hb := bk6 σ' τ' hr.2.2.1 hr.2.2.2.1
            rcases rule_end (sk := sk) E hr (fun s x y => ⟨by
              rw [hsk]
              split
              · exact a5
              · exact g5, by rw [hs.1]; exact (s8 s x y).1, by rw [hs.2]; exact (s8 s x y).2⟩) hj hb.2.2.2.2.1 hb.2.2.2.2.2.1 hb.2.2.2.2.2.2.1 hb.2.2.2.2.2.2.2 (by omega) with ⟨σ4, τ4, c1, c2, c3⟩ | ⟨far, R, σ4, τ4, c1, c2, c3, c4, c5, c6', c7, c8, c9, c10, c11, c12⟩
            · left
              obtain ⟨x1, x2, x3⟩ := c3
              exact ⟨σ4, τ4, c1, c2, frr_tr h3 (frr_u (fruc_tr f1 x1)), frq_tr h4 (frq_u (frum_tr f2 x2)), x3⟩
            · right
              obtain ⟨τ5, y1, y2, y3⟩ := m_take_nx hA hF hK c5
              have hk := (tks_T hK c5.2.1 c5.2.2.1).2.1 (by rw [c3]; decide)
              rw [hk.1] at y3
              have f1' := fruc_tr f1 c6'
              have f2' := frum_tr (frum_tr f2 c7) (frum_e (fre_t y2))
              refine ⟨addR B (sk 0) (sk 1) D' far R, k' + 1, σ4, τ4, τ5, by omega, c1, c2, y1, c4, y3, frr_tr h3 (frr_u f1'), frq_tr h4 (frq_u f2'), c8, ⟨h6.1, h6.2.1, ?_, ?_, c9, c10, ?_, ?_⟩, ?_⟩
              · have : KdC B (σ4.1 15) (σ4.2 16) (σ4.1 17) (σ4.1 18) := by
                  rw [f1'.1 15 (by omega), f1'.1 17 (by omega), f1'.1 18 (by omega), f1'.2.2.2 16 (by omega) (by omega)]; exact h6.2.2.1
                exact this
              · have : KdM B (τ5.1 0 36) (τ5.2 17) (τ5.1 18) (τ5.1 19) (τ5.1 20) := by
                  rw [f2'.2.1 36 (by omega), f2'.1 18 (by omega), f2'.1 19 (by omega), f2'.1 20 (by omega), f2'.2.2.1 17 (by omega) (by omega)]; exact h6.2.2.2.1
                exact this
              · rw [y2.2.1 41 (by omega) (by omega) (by omega) (by omega) (by omega), y2.1 21 (by omega), y2.1 22 (by omega), y2.1 23 (by omega), y2.1 24 (by omega), y2.1 25 (by omega), y2.1 26 (by omega)]; exact c11
              · unfold RuF
                rw [y2.1 21 (by omega)]; exact c12
              · have : NtS B σ4 τ5 := nts_fr h7 (fun c q => f1'.1 c (by omega)) (f1'.2.1 3 (by omega) (by omega) (by omega)) (fun c q => f2'.1 c (by omega)) (fun j q => f2'.2.1 j (by omega))
                exact this
          have f3 : σ3.1 1 4 = (0 : Int32) := g3.2.2.2.2.2.2.2.1
          have sT3 : σ3.1 9 7 = I (kT K k3) := g3.1.2.2.2.2.1
          have tt3 := tks_T hK g3.1.2.1 g3.1.2.2.1
          have tb3 := tt_b tt3.1
          have e58 := m_sg hK g3.2.1 (c := 58) (by decide)
          have out : ∀ X Y, StO F n ch K N σ0 τ0 k X Y → StO F n ch K N σ0 τ0 k (Option.bind X fun s21 => some s21) Y := fun X Y q => by
            cases X <;> exact q
          rw [show f_X6_readSide F (1 : Int32) σ2 = _ from g1, Option.bind_some, Option.bind_some, show f_X12_readSide F (1 : Int32) τ2 = _ from g2, Option.bind_some, if_neg (show ¬ (I 1 = (0 : Int32)) by decide), show f_X12_isSign (58 : Int32) (I 1, τ3).2 = _ from e58, Option.bind_some]
          by_cases t58 : kT K k3 = 58
          · obtain ⟨σ4, q1, q2, q3⟩ := rel_adv E g3
            obtain ⟨τ4, q4, q5, q6⟩ := rel_take E q3
            rw [(tt3.2.1 (by rw [t58]; decide)).1] at q6
            rw [if_pos t58, if_neg (show ¬ (I 1 = (0 : Int32)) by decide), if_pos ⟨f3, by rw [sT3, t58]; rfl⟩, q1, Option.bind_some, show f_X12_take F (I 1, τ3).2 = _ from q4, Option.bind_some]
            rcases links_ok E q6 with ⟨σ5, τ5, x1, x2, x3⟩ | ⟨k5, D5, σ5, τ5, x0, x1, x2, x3, x4, x5, x6⟩
            · left
              have ne' := flt_ne x3
              refine ⟨σ5, τ5, ?_, ?_, flt _ _ x3⟩
              · rw [x1, Option.bind_some, Option.bind_some, if_neg ne']
              · rw [x2, Option.bind_some, if_pos (show I 0 = (0 : Int32) from rfl)]; rfl
            · have f5 : σ5.1 1 4 = (0 : Int32) := x3.2.2.2.2.2.2.2.1
              rw [x1, Option.bind_some, Option.bind_some, if_pos f5, x2, Option.bind_some, if_neg (show ¬ (I 1 = (0 : Int32)) by decide)]
              refine out _ _ (fin k5 D5 σ5 τ5 (by omega) x3 ⟨by rw [x5.1, q2.1 8 (by omega)], by rw [x5.2, q5.1 32 (by omega)]⟩ (all D5 σ5 τ5 x4 (fun G A lo hj => x6 G A lo (jg_fr hj (q2.1 3 (by omega)) (q5.1 29 (by omega))))))
          · rw [if_neg t58, if_pos (show I 0 = (0 : Int32) from rfl), if_neg (fun q => by have := q.2; rw [sT3] at this; exact t58 ((Ieq (58) (58) (by omega) (by omega) (by omega) (by omega)).mp this)), Option.bind_some, if_pos f3]
            refine out _ _ (fin k3 D3 σ3 τ3 (by omega) g3 ⟨rfl, rfl⟩ (all D3 σ3 τ3 (dx_rfl D3) (fun G A lo hj hg ha => jr_iff (hj hg ha) (fun x => ⟨fun q => by
              rcases q with q | q
              · exact q
              · exact absurd q.1 q.2, Or.inl⟩))))
      · left
        have fg := flt_go (z := kS K k1) a3.2.2.1 a3.2.2.2.1 (wc_b (kT K k1)).1 (wc_b (kT K k1)).2
        have ne' := flt_ne fg
        refine ⟨_, _, ?_, ?_, flt _ _ fg⟩
        · rw [show f_X6_pass (4 : Int32) σ1 = _ from cp.2 t4', Option.bind_some, Option.bind_some, if_neg ne', Option.bind_some, if_neg (fun q => ne' q.1), Option.bind_some, if_neg ne']
        · rw [if_neg (show ¬ (τ1.1 0 29 = (4 : Int32)) from fun q => by rw [mT1] at q; exact t4' (mt1.2.2.1.mp ((Ieq (4) (4) (by omega) (by omega) (by omega) (by omega)).mp q))), show f_X12_wrong (I 1, τ1).2 = _ from m_wrong hK a3.2.1]
          rfl
end STM5
