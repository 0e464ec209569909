section STM4
variable {F : Nat} {n : Int} {ch : Int → Int} {K : TkT} {N : Int} {σ0 τ0 : St} {B : BkT} {k : Int} {σ τ : St}
def D00 : DrT := (0, fun _ => 0, fun _ => 0, 0, fun _ => 0, fun _ => 0)
theorem vx00 (x : Int) : ¬ Vx B D00 x := by
  have e1 : Dna D00 = 0 := rfl
  have e2 : Dnn D00 = 0 := rfl
  unfold Vx
  rw [e1, e2]
  rintro (q | q) <;> omega
theorem jr00 {σ τ : St} : JR (fun _ => False) σ τ := ⟨fun x => x, fun x q => q.elim⟩
theorem c_dclear (hF : 10000 ≤ F) (σ : St) : ∃ g, f_X1_clear F σ = some g ∧ g.2 = σ.2 ∧ (∀ c, c ≠ 2 → c ≠ 3 → g.1 c = σ.1 c) ∧ g.1 2 5 = I 0 ∧ g.1 2 6 = I 0 ∧ g.1 2 7 = I 0 := by
  obtain ⟨g1, a1, a2, a3, a4⟩ := c_fill (F := F) (σ := σ) (a := 3) (na := 1728) (v := (-1 : Int32)) (by omega) hF
  refine ⟨seti (seti (seti g1 2 5 (I 0)) 2 6 (I 0)) 2 7 (I 0), ?_, ?_, fun c x y => ?_, ?_, ?_, ?_⟩
  · unfold f_X1_clear
    rw [a1]; rfl
  · rw [seti2, seti2, seti2, a2]
  · rw [seti_r x, seti_r x, seti_r x, a3 c y]
  · rw [seti1, if_neg (by omega), seti1, if_neg (by omega), seti1, if_pos ⟨rfl, rfl⟩]
  · rw [seti1, if_neg (by omega), seti1, if_pos ⟨rfl, rfl⟩]
  · rw [seti1, if_pos ⟨rfl, rfl⟩]
/-- the sheet is empty -/
theorem rel00 {σs τs : St} {L : Int} (hL : L = 12 ∨ L = 200) (h1 : AtC K N k σs) (h2 : AtM n ch K N k τs) (c5 : σs.1 2 5 = I 0) (c6 : σs.1 2 6 = I 0) (m49 : τs.1 0 49 = I 0) (m50 : τs.1 0 50 = I L) (m54 : τs.1 0 54 = I 0) (h8 : σs.1 1 4 = I 0) (h9 : σs.1 1 2 = I (if L = 12 then 1 else 0)) : Rel n ch K N B L σs τs k k D00 σs τs := by
  have e1 : Dna D00 = 0 := rfl
  have e2 : Dnn D00 = 0 := rfl
  refine ⟨h1, h2, frd_rfl _, fre_rfl _, ⟨by rw [e1]; omega, by rw [e1]; omega, fun a x y => by rw [e1] at y; omega, by rw [e2]; omega, by rw [e2]; omega, fun m x y => by rw [e2] at y; omega⟩, ⟨c5, c6, fun a x y => by rw [e1] at y; omega, fun m x y => by rw [e2] at y; omega⟩, ⟨m49, m50, m54, fun a x y => by rw [e1] at y; omega, fun m x y => by rw [e2] at y; omega⟩, h8, h9⟩
theorem stmt_net (hA : TxA n ch) (hK : Tks n ch K N) (hF : 10000 ≤ F) (h : RdS n ch K N σ0 τ0 B k σ τ) (hT : kT K k ≠ 1) : StO F n ch K N σ0 τ0 k (f_X6_readNet F σ) (f_X12_readNet F τ) := by
  obtain ⟨h1, h2, h3, h4, h5, h6, f, Nt, c, n1, n2, n3, n4, n5, n6, n7⟩ := h
  have n40 := hA.2.1
  have tN1 := hK.2.1
  have hk2 := (tks_T hK h1.2.1 h1.2.2.1).2.1 hT
  rcases n1 with f0 | f1
  · rw [f0] at n2 n3
    have ne := n7 f0
    -- the class begins
    have at3 : AtC K N k (seti σ 1 3 (1 : Int32)) := atc_fr' h1 (fun c q => seti_r (by omega)) (by rw [seti1, if_neg (by omega)]) (fun c q => rfl)
    obtain ⟨s4, A1, A2, A3⟩ := c_adv at3.1 hK.1 (by omega) (by have := at3.2.1; omega) at3.2.2.1 at3.2.2.2.1
    rw [hk2.1] at A3
    obtain ⟨s5, B1, B2, B3, B4, B5, B6⟩ := c_dclear hF s4
    obtain ⟨s6, e6⟩ : ∃ s6, s6 = seti s5 1 2 (0 : Int32) := ⟨_, rfl⟩
    have c6 : ∀ c, c ≠ 1 → c ≠ 2 → c ≠ 3 → c ≠ 9 → s6.1 c = σ.1 c := fun c a b d e => by rw [e6, seti_r a, B3 c b d, A2.1 c e, seti_r a]
    have c61 : ∀ j, j ≠ 2 → j ≠ 3 → s6.1 1 j = σ.1 1 j := fun j a b => by rw [e6, seti1, if_neg (by omega), B3 1 (by omega) (by omega), A2.1 1 (by omega), seti1, if_neg (by omega)]
    have c62 : ∀ c, c ≠ 9 → s6.2 c = σ.2 c := fun c a => by rw [e6, seti2, B2, A2.2.2.1 c a]; rfl
    have at6 : AtC K N (k + 1) s6 := atc_fr' A3 (fun c q => by rw [e6, seti_r (by omega), B3 c (by omega) (by omega)]) (by rw [e6, seti1, if_neg (by omega), B3 1 (by omega) (by omega)]) (fun c q => by rw [e6, seti2, B2])
    have fr6 : FrNc σ s6 := ⟨fun c q => c6 c (by omega) (by omega) (by omega) (by omega), fun j a b _ _ => c61 j a b, by rw [e6, seti_r (by omega), B3 9 (by omega) (by omega), A2.2.1 6 (by omega) (by omega) (by omega), seti_r (by omega)], fun c _ a => c62 c a⟩
    -- the reference begins
    obtain ⟨t4, e4⟩ : ∃ t4, t4 = seti (seti (seti (seti τ 0 48 (1 : Int32)) 0 49 (0 : Int32)) 0 50 (200 : Int32)) 0 54 (0 : Int32) := ⟨_, rfl⟩
    have m4 : ∀ c, c ≠ 0 → t4.1 c = τ.1 c := fun c a => by rw [e4, seti_r a, seti_r a, seti_r a, seti_r a]
    have m40 : ∀ j, j ≠ 48 → j ≠ 49 → j ≠ 50 → j ≠ 54 → t4.1 0 j = τ.1 0 j := fun j a b c d => by rw [e4, seti1, if_neg (by omega), seti1, if_neg (by omega), seti1, if_neg (by omega), seti1, if_neg (by omega)]
    have m42 : t4.2 = τ.2 := by rw [e4]; rfl
    have at4 : AtM n ch K N k t4 := atm_fr h2 (m4 1 (by omega)) (fun j q => m40 j (by omega) (by omega) (by omega) (by omega)) (by rw [m42])
    obtain ⟨t5, C1, C2, C3⟩ := m_take_nx hA hF hK at4
    rw [hk2.1] at C3
    have fr5 : FrNm τ t5 := frnm_tr (b := t4) ⟨fun c q => m4 c (by omega), fun j q => m40 j (by omega) (by omega) (by omega) (by omega), fun c _ _ => by rw [m42], fun j _ => by rw [m42]⟩ (frnm_e (fre_t C2))
    have t50 : ∀ j, j ≠ 29 → j ≠ 30 → j ≠ 31 → j ≠ 33 → j ≠ 34 → t5.1 0 j = t4.1 0 j := C2.2.1
    have hbk : BkS B s6 t5 := bks_fr h6 (fun c q => fr6.1 c (by omega)) (c62 16 (by omega)) (fun c q => fr5.1 c (by omega)) (fun j q => fr5.2.1 j (by omega)) (fr5.2.2.1 17 (by omega) (by omega))
    have E : EnvH F n ch K N B 200 s6 t5 := ⟨hA, hK, hF, hbk.1, hbk.2.1, hbk.2.2.1, hbk.2.2.2.1, Or.inr rfl⟩
    have hrel : Rel n ch K N B 200 s6 t5 (k + 1) (k + 1) D00 s6 t5 := by
      refine rel00 (Or.inr rfl) at6 C3 ?_ ?_ ?_ ?_ ?_ ?_ ?_
      · rw [e6, seti_r (by omega)]; exact B4
      · rw [e6, seti_r (by omega)]; exact B5
      · rw [t50 49 (by omega) (by omega) (by omega) (by omega) (by omega), e4, seti1, if_neg (by omega), seti1, if_neg (by omega), seti1, if_pos ⟨rfl, rfl⟩]; rfl
      · rw [t50 50 (by omega) (by omega) (by omega) (by omega) (by omega), e4, seti1, if_neg (by omega), seti1, if_pos ⟨rfl, rfl⟩]; rfl
      · rw [t50 54 (by omega) (by omega) (by omega) (by omega) (by omega), e4, seti1, if_pos ⟨rfl, rfl⟩]; rfl
      · rw [c61 4 (by omega) (by omega)]; exact h5
      · rw [e6, seti1, if_pos ⟨rfl, rfl⟩]; rfl
    have s627 : s6.1 2 7 = I 0 := by rw [e6, seti_r (by omega)]; exact B6
    have s613 : s6.1 1 3 = I 1 := by rw [e6, seti1, if_neg (by omega), B3 1 (by omega) (by omega), A2.1 1 (by omega), seti1, if_pos ⟨rfl, rfl⟩]; rfl
    have t548 : t5.1 0 48 = I 1 := by rw [t50 48 (by omega) (by omega) (by omega) (by omega) (by omega), e4, seti1, if_neg (by omega), seti1, if_neg (by omega), seti1, if_neg (by omega), seti1, if_pos ⟨rfl, rfl⟩]; rfl
    have hne : NetE s6 := by
      rcases n5 with ⟨q1, q2, q3, q4, q5, q6, t, t0, t1, q7, q8⟩
      refine ⟨fun i x y => ?_, ?_, t, t0, t1, ?_⟩
      · rw [c6 28 (by omega) (by omega) (by omega) (by omega)]
        rw [← ne i x y]
        exact q1 i x y
      · rw [c6 27 (by omega) (by omega) (by omega) (by omega), q4]
        have : Ncn Nt = 0 := by
          unfold Ncn
          rw [← cnt_top 400 0 (by omega) (fun i a b => by
            have := ne i (by omega) b
            exact decide_eq_false (by omega))]
          rfl
        rw [this]
      · rw [c6 27 (by omega) (by omega) (by omega) (by omega)]; exact q7
    -- the end
    have fin : ∀ (k' : Int) (D' : DrT) (σ' τ' : St), k < k' → Rel n ch K N B 200 s6 t5 k' k' D' σ' τ' → JG True D' (Vx B D') σ' τ' → StO F n ch K N σ0 τ0 k (f_X6_endNet F σ') (jp8 F τ') := by
      intro k' D' σ' τ' kk hr hj
      have f1 := frnc_tr fr6 (frnc_d hr.2.2.1)
      have f2 := frnm_tr fr5 (frnm_e hr.2.2.2.1)
      have hne' : NetE σ' := by
        obtain ⟨q1, q2, q3⟩ := hne
        unfold NetE
        rw [hr.2.2.1.1 27 (by omega), hr.2.2.1.1 28 (by omega)]
        exact ⟨q1, q2, q3⟩
      rcases net_end E hr hj (by rw [hr.2.2.1.2.2.1.2]; exact s627) hne' with ⟨σ2, τ2, a1, a2, a3⟩ | ⟨Nt', c', σ2, τ2, a1, a2, a3, a4, a5, a6, a7, a8, a9, a10, a11, a12, a13⟩
      · left
        obtain ⟨b1, b2, b3⟩ := a3
        exact ⟨σ2, τ2, a1, a2, frr_tr h3 (frr_n (frnc_tr f1 b1)), frq_tr h4 (frq_n (frnm_tr f2 b2)), b3⟩
      · right
        obtain ⟨τ3, t1, t2, t3⟩ := m_take_nx hA hF hK a5
        have hk := (tks_T hK a5.2.1 a5.2.2.1).2.1 (by rw [a3]; decide)
        rw [hk.1] at t3
        have f1' := frnc_tr f1 a6
        have f2' := frnm_tr (frnm_tr f2 a7) (frnm_e (fre_t t2))
        refine ⟨B, k' + 1, σ2, τ2, τ3, by omega, a1, a2, t1, a4, t3, frr_tr h3 (frr_n f1'), frq_tr h4 (frq_n f2'), a8, ?_, 1, Nt', c', Or.inr rfl, ?_, ?_, a11, a12, ?_, fun q => absurd q (by decide)⟩
        · exact bks_fr h6 (fun c q => f1'.1 c (by omega)) (f1'.2.2.2 16 (by omega) (by omega)) (fun c q => f2'.1 c (by omega)) (fun j q => f2'.2.1 j (by omega)) (f2'.2.2.1 17 (by omega) (by omega))
        · rw [a9, hr.2.2.1.2.1 3 (by omega) (by omega) (by omega)]; exact s613
        · rw [t2.2.1 48 (by omega) (by omega) (by omega) (by omega) (by omega), a10, hr.2.2.2.1.2.1 48 (by omega)]; exact t548
        · exact mnet_fr a13 (fun c q => t2.1 c (by omega)) (fun j q => t2.2.1 j (by omega) (by omega) (by omega) (by omega) (by omega))
    have sT : s6.1 9 7 = I (kT K (k + 1)) := at6.2.2.2.2.1
    have tt := tks_T hK at6.2.1 at6.2.2.1
    have tb := tt_b tt.1
    have e59 := m_sg hK C3 (c := 59) (by decide)
    have s64 : s6.1 1 4 = (0 : Int32) := hrel.2.2.2.2.2.2.2.1
    have cls : f_X6_readNet F σ = Option.bind (if (s6.1 (9) 7) = (59 : Int32) then some s6 else (Option.bind (f_X6_readLinks F s6) fun s9 => some s9)) fun t7 => if (t7.1 (1) 4) = 0 then (Option.bind (f_X6_endNet F t7) fun s11 => some s11) else some t7 := by
      unfold f_X6_readNet
      rw [if_pos (show σ.1 1 3 = (0 : Int32) from n2), Option.bind_some, A1, Option.bind_some, B1, Option.bind_some, Option.bind_some, ← e6]
    have ref : f_X12_readNet F τ = if kT K (k + 1) = 59 then jp8 F t5 else Option.bind (f_X12_readLinks F t5) fun x81 => if x81.1 = 0 then some ((0 : Int32), x81.2) else jp8 F x81.2 := by
      unfold f_X12_readNet f_X12_beginSheet
      rw [if_pos (show τ.1 0 48 = (0 : Int32) from n3), Option.bind_some, Option.bind_some, Option.bind_some, Option.bind_some, Option.bind_some, ← e4, C1, Option.bind_some, show f_X12_isSign (59 : Int32) t5 = _ from e59, Option.bind_some, Option.bind_some]
      by_cases q : kT K (k + 1) = 59
      · rw [if_pos q, if_neg (show ¬ (I 1 = (0 : Int32)) by decide), if_pos q]
        rfl
      · rw [if_neg q, if_pos (show I 0 = (0 : Int32) from rfl), if_neg q]
        rfl
    rw [cls, ref]
    by_cases t59 : kT K (k + 1) = 59
    · rw [if_pos t59, if_pos (by rw [sT, t59]; rfl), Option.bind_some, if_pos s64]
      have := fin (k + 1) D00 s6 t5 (by omega) hrel (fun _ _ => jr_iff jr00 (fun x => ⟨fun q => vx00 x q, fun q => q.elim⟩))
      cases hX : f_X6_endNet F s6 with
      | none =>
        rw [hX] at this
        exact this
      | some y =>
        rw [hX] at this
        exact this
    · rw [if_neg t59, if_neg (fun q => by rw [sT] at q; exact t59 ((Ieq (59) (59) (by omega) (by omega) (by omega) (by omega)).mp q))]
      rcases links_ok E hrel with ⟨σ', τ', a1, a2, a3⟩ | ⟨k', D', σ', τ', a0, a1, a2, a3, a4, a5, a6⟩
      · left
        have ne' := flt_ne a3
        obtain ⟨b1, b2, b3⟩ := a3
        refine ⟨σ', τ', ?_, ?_, frr_tr h3 (frr_n (frnc_tr fr6 (frnc_d b1))), frq_tr h4 (frq_n (frnm_tr fr5 (frnm_e b2))), b3⟩
        · rw [a1, Option.bind_some, Option.bind_some, if_neg ne']
        · rw [a2, Option.bind_some, if_pos (show I 0 = (0 : Int32) from rfl)]; rfl
      · have f0' : σ'.1 1 4 = (0 : Int32) := a3.2.2.2.2.2.2.2.1
        have hj : JG True D' (Vx B D') σ' τ' := fun g a => jr_iff (a6 True (fun _ => False) (fun x q => q.elim) (fun _ _ => jr00) g a) (fun x => ⟨fun q => Or.inr ⟨q, vx00 x⟩, fun q => by
          rcases q with q | q
          · exact q.elim
          · exact q.1⟩)
        have := fin k' D' σ' τ' (by omega) a3 hj
        rw [a1, Option.bind_some, Option.bind_some, if_pos f0', a2, Option.bind_some, if_neg (show ¬ (I 1 = (0 : Int32)) by decide)]
        cases hX : f_X6_endNet F σ' with
        | none =>
          rw [hX] at this
          exact this
        | some y =>
          rw [hX] at this
          exact this
  · left
    rw [f1] at n2 n3
    refine ⟨_, _, ?_, ?_, fltg_go (z := kS K k) (c := 4) h3 h4 (by omega) (by omega)⟩
    · unfold f_X6_readNet
      rw [if_neg (show ¬ (σ.1 1 3 = (0 : Int32)) by rw [n2]; decide), show f_X6_refuse (4 : Int32) σ = _ from c_refuse (c := 4) h1]
      rfl
    · unfold f_X12_readNet
      rw [if_neg (show ¬ (τ.1 0 48 = (0 : Int32)) by rw [n3]; decide), h2.2.2.2.2.1]
      rfl
end STM4
