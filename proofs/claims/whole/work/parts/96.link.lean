section LNK
variable {n : Int} {ch : Int → Int} {K : TkT} {N : Int} {B : BkT} {L : Int} {σ0 τ0 : St} {F : Nat} {k : Int} {D : DrT} {σ τ : St}
theorem ri_end (F n' m : Nat) (τ : St) (h : 1 ≤ m) : RI F n' m 0 (I 0) τ = some (I 1, τ) := by
  obtain ⟨m', rfl⟩ : ∃ m', m = m' + 1 := ⟨m - 1, by omega⟩
  unfold RI
  rw [f_X12_readTerm_L236, if_pos (show I 0 = (0 : Int32) from rfl), if_pos (show I 0 = (0 : Int32) from rfl)]
  rfl
def TopOK (F : Nat) (n : Int) (ch : Int → Int) (K : TkT) (N : Int) (B : BkT) (L : Int) (σ0 τ0 : St) (k : Int) (D : DrT) (σ τ : St) : Prop :=
  (∃ cv σ' τ', f_X6_readTerm F 16 (0 : Int32) σ = some (cv, σ') ∧ f_X12_readTerm F τ = some (I 0, τ') ∧ Flt σ0 τ0 σ' τ') ∨
  (∃ k' D' v cv σ' τ', k < k' ∧ f_X6_readTerm F 16 (0 : Int32) σ = some (cv, σ') ∧ f_X12_readTerm F τ = some (I 1, τ') ∧ Rel n ch K N B L σ0 τ0 k' k' D' σ' τ' ∧ DXt D D' ∧ (0 ≤ v ∧ v ≤ 1210) ∧ τ'.1 0 60 = I v ∧ (σ'.1 8 = σ.1 8 ∧ τ'.1 32 = τ.1 32) ∧ (∀ (G : Prop) (A : Int → Prop), Low B D A → JG G D A σ τ → JG G D' (fun x => A x ∨ (Vx B D' x ∧ ¬ Vx B D x ∧ x ≠ v)) σ' τ') ∧ (Al2 D' → cv = I (pt v) ∧ Vx B D' v ∧ ¬ Vx B D v))
theorem term_top (E : EnvH F n ch K N B L σ0 τ0) (h : Rel n ch K N B L σ0 τ0 k k D σ τ) : TopOK F n ch K N B L σ0 τ0 k D σ τ := by
  have hF := E.2.2.1
  have n4 := E.1.2.1
  have tN1 := E.2.1.2.1
  have k0 := h.1.2.1
  rcases term_ok E 16 0 (by omega) (by omega) (by omega) k D σ τ h with ⟨cv, σ', τ', A1, A2, M, A3, A4⟩ | ⟨k', D', v, cv, σ', τ', A1, A2, A3, A4, A5, A6, A7, A8, ⟨M, A9, A10⟩, A11, A12⟩
  · left
    refine ⟨cv, σ', τ', A1, ?_, A2⟩
    have := A4 (F - M)
    rw [show F - M + M = F by omega] at this
    rw [rt_top]; exact this
  · right
    have k'1 := A3.1.2.2.1
    refine ⟨k', D', v, cv, σ', τ', A1, A2, ?_, A3, A4, A5, A6, A8, A11, A12⟩
    have := A10 (F - M) (some (I 1, τ')) (fun m hm => ri_end F _ m τ' (by omega))
    rw [show F - M + M = F by omega] at this
    rw [rt_top]; exact this
theorem m_needs (E : EnvH F n ch K N B L σ0 τ0) {c : Int} (hc : isSg c = true) {kc : Int} (h : Rel n ch K N B L σ0 τ0 kc k D σ τ) : (kT K k = c → ∃ g, f_X12_needs F (I c) τ = some (I 1, g) ∧ f_X12_take F τ = some g ∧ FrT τ g ∧ Rel n ch K N B L σ0 τ0 kc (nx N k) D σ g) ∧ (kT K k ≠ c → f_X12_needs F (I c) τ = some (I 0, seti (seti τ 0 35 (I (wc (kT K k)))) 0 2 (I (kS K k)))) := by
  have e := m_sg E.2.1 h.2.1 hc
  constructor
  · intro t
    obtain ⟨g, g1, g2, g3⟩ := rel_take E h
    refine ⟨g, ?_, g1, g2, g3⟩
    unfold f_X12_needs
    rw [e, if_pos t, Option.bind_some, if_neg (show ¬ (I 1 = (0 : Int32)) by decide), g1]; rfl
  · intro t
    unfold f_X12_needs
    rw [e, if_neg t, Option.bind_some, if_pos (show I 0 = (0 : Int32) from rfl), m_wrong E.2.1 h.2.1]; rfl
theorem c_pss (E : EnvH F n ch K N B L σ0 τ0) {c : Int} (c0 : 0 ≤ c) (c1 : c < 256) {km : Int} (h : Rel n ch K N B L σ0 τ0 k km D σ τ) : (kT K k = c → ∃ g, f_X6_pass (I c) σ = some g ∧ FrV σ g ∧ Rel n ch K N B L σ0 τ0 (nx N k) km D g τ) ∧ (kT K k ≠ c → f_X6_pass (I c) σ = some (seti (seti σ 1 4 (I (wc (kT K k)))) 1 7 (I (kS K k)))) := by
  have tb := tt_b (tks_T E.2.1 h.1.2.1 h.1.2.2.1).1
  have sT : σ.1 9 7 = I (kT K k) := h.1.2.2.2.2.1
  constructor
  · intro t
    obtain ⟨g, g1, g2, g3⟩ := rel_adv E h
    refine ⟨g, ?_, g2, g3⟩
    unfold f_X6_pass
    rw [sT, if_pos (by rw [t]), g1]; rfl
  · intro t
    unfold f_X6_pass
    rw [sT, if_neg (fun q => t ((I_eq (by omega) (by omega) (by omega) (by omega)).mp q)), c_wrong E.2.1 h.1]; rfl
/-- links, as long as a comma follows -/
theorem links_L (E : EnvH F n ch K N B L σ0 τ0) : ∀ (m : Nat) (i k : Int) (D : DrT) (σ τ : St), 0 ≤ i → 2 * i ≤ k → N - k < m → Rel n ch K N B L σ0 τ0 k k D σ τ → (∃ σ' τ', f_X6_readLinks_L4 F m (I 1) (I i) σ = some σ' ∧ f_X12_readLinks_L2 F m (I 1) τ = some (I 0, τ') ∧ Flt σ0 τ0 σ' τ') ∨ (∃ k' D' σ' τ', k < k' ∧ f_X6_readLinks_L4 F m (I 1) (I i) σ = some σ' ∧ f_X12_readLinks_L2 F m (I 1) τ = some (I 1, τ') ∧ Rel n ch K N B L σ0 τ0 k' k' D' σ' τ' ∧ DXt D D' ∧ (σ'.1 8 = σ.1 8 ∧ τ'.1 32 = τ.1 32) ∧ ∀ (G : Prop) (A : Int → Prop), Low B D A → JG G D A σ τ → JG G D' (fun x => A x ∨ (Vx B D' x ∧ ¬ Vx B D x)) σ' τ') := by
  have n4 := E.1.2.1
  have tN1 := E.2.1.2.1
  have hK := E.2.1
  intro m
  induction m with
  | zero => intro i k D σ τ _ _ hf h; have := h.1.2.2.1; omega
  | succ m ih =>
    intro i k D σ τ i0 ik hf h
    have k0 := h.1.2.1
    have k1 := h.1.2.2.1
    obtain ⟨m, rfl⟩ : ∃ m', m = m' + 1 := ⟨m - 1, by omega⟩
    have c1 : (I i < (4000 : Int32)) ∧ ¬ (I 1 = (0 : Int32)) := ⟨(Ilt (4000) (4000) (by omega) (by omega) (by omega) (by omega)).mpr (by omega), by decide⟩
    have lend : ∀ s, f_X6_readLinks_L4 F (m + 1) (0 : Int32) (I i + 1) s = some s := fun s => by
      rw [f_X6_readLinks_L4, if_neg (fun q => q.2 rfl)]
    have mend : ∀ s, f_X12_readLinks_L2 F (m + 1) (I 0) s = some (I 1, s) := fun s => by
      rw [f_X12_readLinks_L2, if_pos (show I 0 = (0 : Int32) from rfl)]; rfl
    rcases term_top E h with ⟨cv, σ1, τ1, A1, A2, A3⟩ | ⟨k1', D1, v, cv, σ1, τ1, A1, A2, A3, A4, A5, A6, A7, A8, A9, A10⟩
    · left
      have ne := flt_ne A3
      refine ⟨σ1, τ1, ?_, ?_, A3⟩
      · rw [f_X6_readLinks_L4, if_pos c1, A1, Option.bind_some, if_neg ne, Option.bind_some, if_neg ne, Option.bind_some, if_neg (fun q => ne q.1), Option.bind_some, if_pos rfl, Option.bind_some]
        exact lend σ1
      · rw [f_X12_readLinks_L2, if_neg (by decide), A2, Option.bind_some, if_pos (show I 0 = (0 : Int32) from rfl)]; rfl
    · have f1 : σ1.1 1 4 = (0 : Int32) := A4.2.2.2.2.2.2.2.1
      have cp := c_pss E (c := 61) (by omega) (by omega) A4
      by_cases t61 : kT K k1' = 61
      · obtain ⟨σ2, B1, B2, B3⟩ := cp.1 t61
        obtain ⟨τ2, B4, _, B5, B6⟩ := (m_needs E (c := 61) (by decide) B3).1 t61
        have hk1 := (tks_T hK A4.1.2.1 A4.1.2.2.1).2.1 (by rw [t61]; decide)
        rw [hk1.1] at B6
        have f2 : σ2.1 1 4 = (0 : Int32) := B6.2.2.2.2.2.2.2.1
        rcases term_top E B6 with ⟨cw, σ3, τ3, C1, C2, C3⟩ | ⟨k2, D2, w, cw, σ3, τ3, C1, C2, C3, C4, C5, C6, C7, C8, C9, C10⟩
        · left
          obtain ⟨g, j1, j2, j3⟩ := c_join_any cv cw σ3
          have fg := flt_c C3 j2 j3
          have ne := flt_ne fg
          refine ⟨g, τ3, ?_, ?_, fg⟩
          · rw [f_X6_readLinks_L4, if_pos c1, A2, Option.bind_some, if_pos f1, show (61 : Int32) = I 61 from rfl, B1, Option.bind_some, Option.bind_some, if_pos f2, C1, Option.bind_some, j1, Option.bind_some, Option.bind_some, if_neg (fun q => ne q.1), Option.bind_some, if_pos rfl, Option.bind_some]
            exact lend g
          · rw [f_X12_readLinks_L2, if_neg (by decide), A3, Option.bind_some, if_neg (show ¬ (I 1 = (0 : Int32)) by decide), Option.bind_some, show (61 : Int32) = I 61 from rfl, B4, Option.bind_some, if_neg (show ¬ (I 1 = (0 : Int32)) by decide), C2, Option.bind_some, if_pos (show I 0 = (0 : Int32) from rfl)]; rfl
        · obtain ⟨g, j1, j2, j3⟩ := c_join_any cv cw σ3
          have hR : Rel n ch K N B L σ0 τ0 k2 k2 D2 g (jn29 τ3 v w) := rel_c (rel_m C4 (fun c _ y _ _ _ => by unfold jn29; rw [seti_r y, seti_r y]) (fun j x => by unfold jn29; rw [seti_r (by omega), seti_r (by omega)]) rfl) (fun c x _ => j2 c x) j3
          have f3 : g.1 1 4 = (0 : Int32) := hR.2.2.2.2.2.2.2.1
          have gT : g.1 9 7 = I (kT K k2) := hR.1.2.2.2.2.1
          have tt2 := tks_T hK hR.1.2.1 hR.1.2.2.1
          have tb2 := tt_b tt2.1
          have mj : f_X12_join (I v) (I w) τ3 = some (jn29 τ3 v w) := m_join A6.1 (by omega) C6.1 (by omega) τ3
          have e44 := m_sg hK hR.2.1 (c := 44) (by decide)
          have sd : g.1 8 = σ.1 8 ∧ (jn29 τ3 v w).1 32 = τ.1 32 := ⟨by rw [j2 8 (by omega), C8.1, B2.1 8 (by omega), A8.1], by unfold jn29; rw [seti_r (by omega), seti_r (by omega), C8.2, B5.1 32 (by omega), A8.2]⟩
          have hJ : ∀ (G : Prop) (A : Int → Prop), Low B D A → JG G D A σ τ → JG G D2 (fun x => A x ∨ (Vx B D2 x ∧ ¬ Vx B D x)) g (jn29 τ3 v w) := by
            intro G A lo hj hG h2
            have a1 := jg_fr (A9 G A lo hj) (σ' := σ2) (τ' := τ2) (B2.1 3 (by omega)) (B5.1 29 (by omega))
            have lo1 : Low B D1 (fun x => A x ∨ (Vx B D1 x ∧ ¬ Vx B D x ∧ x ≠ v)) := fun x hx => by
              rcases hx with q | q
              · rcases lo x q with u | u
                · exact Or.inl (dx_v A5 u)
                · exact Or.inr u
              · exact Or.inl q.1
            have a2 := C9 G _ lo1 a1 hG h2
            obtain ⟨e1, vD1, vD⟩ := A10 (dx_al C5 h2)
            obtain ⟨e2, wD2, wD1⟩ := C10 h2
            have vok := (vx_ok vD1).1
            have wok := (vx_ok wD2).1
            have vlt := (vx_ok vD1).2
            have wlt := (vx_ok wD2).2
            have a3 := jr_join (x := v) (y := w) a2 (fun q => by
              rcases q with (q | q) | q
              · rcases lo v q with u | u
                · exact vD u
                · omega
              · exact q.2.2 rfl
              · exact q.2.1 vD1) (fun q => by
              rcases q with (q | q) | q
              · rcases lo w q with u | u
                · exact wD1 (dx_v A5 u)
                · omega
              · exact wD1 q.1
              · exact q.2.2 rfl) (fun q => wD1 (by rw [← q]; exact vD1)) vok wok
            rw [e1, e2, c_join vok wok] at j1
            have j1' := Option.some.inj j1
            refine jr_iff (jr_fr (σ' := g) (τ' := jn29 τ3 v w) a3 (by rw [j1']) rfl) (fun x => ?_)
            constructor
            · rintro (q | q)
              · exact Or.inl (Or.inl (Or.inl q))
              · by_cases u : x = v
                · exact Or.inr (Or.inl u)
                · by_cases u' : x = w
                  · exact Or.inr (Or.inr u')
                  · by_cases u'' : Vx B D1 x
                    · exact Or.inl (Or.inl (Or.inr ⟨u'', q.2, u⟩))
                    · exact Or.inl (Or.inr ⟨q.1, u'', u'⟩)
            · rintro (((q | q) | q) | q | q)
              · exact Or.inl q
              · exact Or.inr ⟨dx_v C5 q.1, q.2.1⟩
              · exact Or.inr ⟨q.1, fun u => q.2.1 (dx_v A5 u)⟩
              · rw [q]; exact Or.inr ⟨dx_v C5 vD1, vD⟩
              · rw [q]; exact Or.inr ⟨wD2, fun u => wD1 (dx_v A5 u)⟩
          by_cases t44 : kT K k2 = 44
          · obtain ⟨σ4, G1, G2, G3⟩ := rel_adv E hR
            obtain ⟨τ4, G4, G5, G6⟩ := rel_take E G3
            have hk2 := tt2.2.1 (by rw [t44]; decide)
            rw [hk2.1] at G6
            have cc : f_X6_readLinks_L4 F (m + 1 + 1) (I 1) (I i) σ = f_X6_readLinks_L4 F (m + 1) (I 1) (I (i + 1)) σ4 := by
              rw [f_X6_readLinks_L4, if_pos c1, A2, Option.bind_some, if_pos f1, show (61 : Int32) = I 61 from rfl, B1, Option.bind_some, Option.bind_some, if_pos f2, C2, Option.bind_some, j1, Option.bind_some, Option.bind_some, if_pos ⟨f3, by rw [gT, t44]; rfl⟩, Option.bind_some, if_neg (by decide), G1, Option.bind_some, Option.bind_some, show I i + (1 : Int32) = I (i + 1) by rw [show (1 : Int32) = I 1 from rfl, I_add]]
              rfl
            have mm : f_X12_readLinks_L2 F (m + 1 + 1) (I 1) τ = f_X12_readLinks_L2 F (m + 1) (I 1) τ4 := by
              rw [f_X12_readLinks_L2, if_neg (by decide), A3, Option.bind_some, if_neg (show ¬ (I 1 = (0 : Int32)) by decide), Option.bind_some, A7, show (61 : Int32) = I 61 from rfl, B4, Option.bind_some, if_neg (show ¬ (I 1 = (0 : Int32)) by decide), C3, Option.bind_some, if_neg (show ¬ (I 1 = (0 : Int32)) by decide), C7, mj, Option.bind_some, show (44 : Int32) = I 44 from rfl, e44, if_pos t44, Option.bind_some, if_neg (by decide), G4, Option.bind_some, Option.bind_some]
            rcases ih (i + 1) (k2 + 1) D2 σ4 τ4 (by omega) (by omega) (by omega) G6 with ⟨σ', τ', H1, H2, H3⟩ | ⟨k', D', σ', τ', H0, H1, H2, H3, H4, H5, H6⟩
            · left
              exact ⟨σ', τ', by rw [cc]; exact H1, by rw [mm]; exact H2, H3⟩
            · right
              refine ⟨k', D', σ', τ', by omega, by rw [cc]; exact H1, by rw [mm]; exact H2, H3, dx_tr (dx_tr A5 C5) H4, ⟨by rw [H5.1, G2.1 8 (by omega), sd.1], by rw [H5.2, G5.1 32 (by omega), sd.2]⟩, fun G A lo hj => ?_⟩
              have a1 := jg_fr (hJ G A lo hj) (σ' := σ4) (τ' := τ4) (G2.1 3 (by omega)) (G5.1 29 (by omega))
              have lo1 : Low B D2 (fun x => A x ∨ (Vx B D2 x ∧ ¬ Vx B D x)) := fun x hx => by
                rcases hx with q | q
                · rcases lo x q with u | u
                  · exact Or.inl (dx_v C5 (dx_v A5 u))
                  · exact Or.inr u
                · exact Or.inl q.1
              intro hG h2
              refine jr_iff (H6 G _ lo1 a1 hG h2) (fun x => ?_)
              constructor
              · rintro (q | q)
                · exact Or.inl (Or.inl q)
                · by_cases u : Vx B D2 x
                  · exact Or.inl (Or.inr ⟨u, q.2⟩)
                  · exact Or.inr ⟨q.1, u⟩
              · rintro ((q | q) | q)
                · exact Or.inl q
                · exact Or.inr ⟨dx_v H4 q.1, q.2⟩
                · exact Or.inr ⟨q.1, fun u => q.2 (dx_v C5 (dx_v A5 u))⟩
          · right
            refine ⟨k2, D2, g, jn29 τ3 v w, by omega, ?_, ?_, hR, dx_tr A5 C5, sd, hJ⟩
            · rw [f_X6_readLinks_L4, if_pos c1, A2, Option.bind_some, if_pos f1, show (61 : Int32) = I 61 from rfl, B1, Option.bind_some, Option.bind_some, if_pos f2, C2, Option.bind_some, j1, Option.bind_some, Option.bind_some, if_neg (fun q => by have := q.2; rw [gT] at this; exact t44 ((Ieq (44) (44) (by omega) (by omega) (by omega) (by omega)).mp this)), Option.bind_some, if_pos rfl, Option.bind_some]
              exact lend g
            · rw [f_X12_readLinks_L2, if_neg (by decide), A3, Option.bind_some, if_neg (show ¬ (I 1 = (0 : Int32)) by decide), Option.bind_some, A7, show (61 : Int32) = I 61 from rfl, B4, Option.bind_some, if_neg (show ¬ (I 1 = (0 : Int32)) by decide), C3, Option.bind_some, if_neg (show ¬ (I 1 = (0 : Int32)) by decide), C7, mj, Option.bind_some, show (44 : Int32) = I 44 from rfl, e44, if_neg t44, Option.bind_some, if_pos (show I 0 = (0 : Int32) from rfl), Option.bind_some]
              exact mend _
      · left
        have fg := flt_go (z := kS K k1') A4.2.2.1 A4.2.2.2.1 (wc_b (kT K k1')).1 (wc_b (kT K k1')).2
        have ne := flt_ne fg
        refine ⟨_, _, ?_, ?_, fg⟩
        · rw [f_X6_readLinks_L4, if_pos c1, A2, Option.bind_some, if_pos f1, show (61 : Int32) = I 61 from rfl, cp.2 t61, Option.bind_some, Option.bind_some, if_neg ne, Option.bind_some, if_neg (fun q => ne q.1), Option.bind_some, if_pos rfl, Option.bind_some]
          exact lend _
        · rw [f_X12_readLinks_L2, if_neg (by decide), A3, Option.bind_some, if_neg (show ¬ (I 1 = (0 : Int32)) by decide), Option.bind_some, show (61 : Int32) = I 61 from rfl, (m_needs E (c := 61) (by decide) A4).2 t61, Option.bind_some, if_pos (show I 0 = (0 : Int32) from rfl)]; rfl
def LnkOK (F : Nat) (n : Int) (ch : Int → Int) (K : TkT) (N : Int) (B : BkT) (L : Int) (σ0 τ0 : St) (k : Int) (D : DrT) (σ τ : St) : Prop :=
  (∃ σ' τ', f_X6_readLinks F σ = some σ' ∧ f_X12_readLinks F τ = some (I 0, τ') ∧ Flt σ0 τ0 σ' τ') ∨ (∃ k' D' σ' τ', k < k' ∧ f_X6_readLinks F σ = some σ' ∧ f_X12_readLinks F τ = some (I 1, τ') ∧ Rel n ch K N B L σ0 τ0 k' k' D' σ' τ' ∧ DXt D D' ∧ (σ'.1 8 = σ.1 8 ∧ τ'.1 32 = τ.1 32) ∧ ∀ (G : Prop) (A : Int → Prop), Low B D A → JG G D A σ τ → JG G D' (fun x => A x ∨ (Vx B D' x ∧ ¬ Vx B D x)) σ' τ')
theorem links_ok (E : EnvH F n ch K N B L σ0 τ0) (h : Rel n ch K N B L σ0 τ0 k k D σ τ) : LnkOK F n ch K N B L σ0 τ0 k D σ τ := by
  have hF := E.2.2.1
  have n4 := E.1.2.1
  have tN1 := E.2.1.2.1
  have k0 := h.1.2.1
  rcases links_L E F 0 k D σ τ (by omega) (by omega) (by omega) h with ⟨σ', τ', H1, H2, H3⟩ | ⟨k', D', σ', τ', H0, H1, H2, H3⟩
  · left
    refine ⟨σ', τ', ?_, H2, H3⟩
    unfold f_X6_readLinks
    have H1' : f_X6_readLinks_L4 F F (1 : Int32) (0 : Int32) σ = some σ' := H1
    rw [H1']; rfl
  · right
    refine ⟨k', D', σ', τ', H0, ?_, H2, H3⟩
    unfold f_X6_readLinks
    have H1' : f_X6_readLinks_L4 F F (1 : Int32) (0 : Int32) σ = some σ' := H1
    rw [H1']; rfl
end LNK
