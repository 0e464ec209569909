def kkA : Int32 × St → Option (Int32 × St) := fun t15 => if (t15.2.1 (1) 4) = 0 then (Option.bind (f_X6_pass (41 : Int32) t15.2) fun s17 => some (t15.1, s17)) else (some (t15.1, t15.2))
def kkB : Int32 × St → Option (Int32 × St) := fun t18 => Option.bind (f_X6_refuseToken t18.2) fun s19 => some (t18.1, s19)
def rkA (F : Nat) (x2 x3 x12 : Int32) : Int32 × St → Option (Int32 × St) := fun t28 => if (x12 = 0) ∨ (¬ ((f_X12_isSign (41 : Int32) t28.2) = 0)) then (if inb x2 16 then (if t28.1 = (t28.2.1 (18) (ix x2)) then (if x12 = 0 then (some ((1 : Int32), t28.2)) else (Option.bind (f_X12_take F t28.2) fun s32 => some ((1 : Int32), s32))) else (Option.bind (f_X12_fail (5 : Int32) x3 t28.2) fun x33 => if x33.1 = 0 ∨ x33.1 = 1 then some (x33.1, x33.2) else none)) else none) else (Option.bind (f_X12_wrong t28.2) fun x35 => if x35.1 = 0 ∨ x35.1 = 1 then some (x35.1, x35.2) else none)
def CSn (F : Nat) (s z S : Int) (m : Nat) (i : Int) (σ : St) : Option St := Option.bind (f_X6_readSideNames_L2 F (I s) kkA kkB m (I i) σ) (fun x15 => f_X6_askBracket (I z) x15.1 (I S) x15.2)
def MS (F : Nat) (s z S : Int) (m : Nat) (i : Int) (w : Int32) (τ : St) : Option (Int32 × St) := f_X12_readSide_L64 F (I s) (I z) (I S) (I 1) (rkA F (I z) (I S) (I 1)) tkC tkA m (I (i + 1)) w τ
theorem c_sjif (v1 c1 cv : Int32) (σ : St) : ∃ g, (if v1 < (4 : Int32) then (Option.bind (some (f_X1_outerPoint ((c1 * (4 : Int32)) + v1))) fun x7 => Option.bind (f_X1_join x7 cv σ) fun s8 => some s8) else some σ) = some g ∧ (∀ c, c ≠ 3 → g.1 c = σ.1 c) ∧ g.2 = σ.2 ∧ (v1 < 4 → f_X1_join (f_X1_outerPoint ((c1 * (4 : Int32)) + v1)) cv σ = some g) := by
  by_cases h : v1 < (4 : Int32)
  · obtain ⟨g, g1, g2, g3⟩ := c_join_any (f_X1_outerPoint ((c1 * (4 : Int32)) + v1)) cv σ
    exact ⟨g, by rw [if_pos h, Option.bind_some, g1]; rfl, g2, g3, fun _ => g1⟩
  · exact ⟨σ, by rw [if_neg h], fun _ _ => rfl, rfl, fun q => absurd q h⟩
theorem c_outer {s i : Int} (s0 : 0 ≤ s) (s1 : s ≤ 1) (i0 : 0 ≤ i) (i1 : i < 4) : f_X1_outerPoint ((I s * (4 : Int32)) + I i) = I (pt (1200 + 5 * s + (i + 1))) := by
  have e : (I s * (4 : Int32)) + I i = I (4 * s + i) := by rw [show (4 : Int32) = I 4 from rfl, I_mul, I_add, Int.mul_comm]
  rw [e]
  unfold f_X1_outerPoint f_X11_isInside
  rw [if_pos (⟨(Ile' (0) (0) (by omega) (by omega) (by omega) (by omega)).mpr (by omega), (Ilt (8) (8) (by omega) (by omega) (by omega) (by omega)).mpr (by omega)⟩ : (0 : Int32) ≤ I (4 * s + i) ∧ I (4 * s + i) < (8 : Int32)), if_neg (by decide), show (1720 : Int32) = I 1720 from rfl, I_add]
  unfold pt
  rw [if_neg (by omega), if_neg (by omega)]
  have e1 : (1200 + 5 * s + (i + 1) - 1200) / 5 = s := by omega
  have e2 : (1200 + 5 * s + (i + 1) - 1200) % 5 = i + 1 := by omega
  rw [e1, e2, show 1720 + (4 * s + i) = 1720 + 4 * s + (i + 1) - 1 by omega]
section SDE
variable {n : Int} {ch : Int → Int} {K : TkT} {N : Int} {B : BkT} {L : Int} {σ0 τ0 : St} {F : Nat}
def SdOK (F : Nat) (n : Int) (ch : Int → Int) (K : TkT) (N : Int) (B : BkT) (L : Int) (σ0 τ0 : St) (s z : Int) (i k : Int) (D : DrT) (σ τ : St) (X : Option St) (Y : Option (Int32 × St)) : Prop :=
  (∃ σ' τ', X = some σ' ∧ Y = some (I 0, τ') ∧ Flt σ0 τ0 σ' τ') ∨
  (∃ k' D' σ' τ', k < k' ∧ X = some σ' ∧ Y = some (I 1, τ') ∧ Rel n ch K N B L σ0 τ0 k' k' D' σ' τ' ∧ DXt D D' ∧ i < Bpt B z ∧ (σ'.1 8 = σ.1 8 ∧ τ'.1 32 = τ.1 32) ∧ (∀ (G : Prop) (A : Int → Prop), Low B D A → (∀ p, i < p → p < Bpt B z → ¬ A (1200 + 5 * s + p)) → JG G D A σ τ → JG G D' (fun x => A x ∨ (Vx B D' x ∧ ¬ Vx B D x) ∨ (1200 + 5 * s + i < x ∧ x < 1200 + 5 * s + Bpt B z)) σ' τ'))
theorem side_L (E : EnvH F n ch K N B L σ0 τ0) {s z S : Int} (s0 : 0 ≤ s) (s1 : s ≤ 1) (z0 : 0 ≤ z) (z1 : z < Bkn B) : ∀ (m : Nat) (i k : Int) (D : DrT) (σ τ : St), 0 ≤ i → i ≤ k → kT K k ≠ 1 → N - k < m → Rel n ch K N B L σ0 τ0 k k D σ τ → SdOK F n ch K N B L σ0 τ0 s z i k D σ τ (CSn F s z S m i σ) (MS F s z S m i (I 1) τ) := by
  have hK := E.2.1
  have hV := E.2.2.2.1
  have n4 := E.1.2.1
  have tN1 := hK.2.1
  have q1 := hV.2.2.1 z z0 z1
  have b16 := hV.2.1
  intro m
  induction m with
  | zero => intro i k D σ τ _ _ _ hf h; have := h.1.2.2.1; omega
  | succ m ih =>
    intro i k D σ τ i0 ik hk1 hf h
    have hk0 := h.1.2.1
    have hkk := (tks_T hK h.1.2.1 h.1.2.2.1).2.1 hk1
    obtain ⟨m, rfl⟩ : ∃ m', m = m' + 1 := ⟨m - 1, by omega⟩
    obtain ⟨σ1, A1, A2, A3⟩ := rel_adv E h
    obtain ⟨τ1, B1, B2, B3⟩ := rel_take E A3
    rw [hkk.1] at B3
    have ei : I i + (1 : Int32) = I (i + 1) := by rw [show (1 : Int32) = I 1 from rfl, I_add]
    have ei2 : I (i + 1) + (1 : Int32) = I (i + 1 + 1) := by rw [show (1 : Int32) = I 1 from rfl, I_add]
    have sT : σ1.1 9 7 = I (kT K (k + 1)) := B3.1.2.2.2.2.1
    have tt := tks_T hK B3.1.2.1 B3.1.2.2.1
    have tb := tt_b tt.1
    have mt := mty_c tt.1
    have mT : τ1.1 0 29 = I (mty (kT K (k + 1))) := B3.2.1.2.2.2.1
    by_cases t2 : kT K (k + 1) = 2
    · have s2 : σ1.1 9 7 = (2 : Int32) := by rw [sT, t2]; rfl
      have m1 : τ1.1 0 29 = (1 : Int32) := by rw [mT, mt.1.mpr t2]; rfl
      have hk2 := tt.2.1 (by rw [t2]; decide)
      rcases name_ok E B3 t2 (p := 0) (by omega) (by omega) with ⟨C1, C2⟩ | ⟨D', v, cv, σ2, τ2, C1, C2, C3, C4, C5, C6, C7, C8, C9, C10, C11⟩
      · left
        have fg0 := flt_go (z := kS K (k + 1)) (c := 4) B3.2.2.1 B3.2.2.2.1 (by omega) (by omega)
        obtain ⟨g, j1, j2, j3, _⟩ := c_sjif (I i) (I s) (I (-1)) (seti (seti σ1 1 4 (I 4)) 1 7 (I (kS K (k + 1))))
        have fg := flt_c fg0 j2 j3
        have ne := flt_ne fg
        refine ⟨g, _, ?_, ?_, fg⟩
        · unfold CSn
          rw [f_X6_readSideNames_L2, A1, Option.bind_some, if_pos s2, show f_X6_readName F (0 : Int32) σ1 = _ from C1, Option.bind_some]
          show Option.bind (Option.bind (if I i < (4 : Int32) then _ else _) _) _ = _
          rw [j1, Option.bind_some, ei, Option.bind_some, if_neg (fun x => ne x.1)]
          unfold kkA
          rw [if_neg ne, Option.bind_some]
          unfold f_X6_askBracket
          rw [if_neg ne]
        · unfold MS
          rw [f_X12_readSide_L64, if_neg (by decide), B1, Option.bind_some, if_pos m1, C2, Option.bind_some, if_pos (show I (-1) < (0 : Int32) by decide)]
          exact tkC_e B3.2.1
      · obtain ⟨g, j1, j2, j3, j4⟩ := c_sjif (I i) (I s) cv σ2
        have i16 : inb (I z) 16 = true := (I_inb (by omega) (by omega)).mpr ⟨by omega, by omega⟩
        have xz : ix (I z) = z.toNat := I_ix (by omega) (by omega)
        have t18 : τ2.1 18 z.toNat = I (Bpt B z) := (rel_km E C3.2.2.2.1).2.2.1 z z0 z1
        obtain ⟨τ3, e3⟩ : ∃ τ3, τ3 = (if i + 1 < Bpt B z then jn29 τ2 (1200 + 5 * s + (i + 1)) v else τ2) := ⟨_, rfl⟩
        have jn : (if I (i + 1) < I (Bpt B z) then (Option.bind (f_X12_join (((1200 : Int32) + ((5 : Int32) * I s)) + I (i + 1)) (I v) τ2) fun s24 => some s24) else some τ2) = some τ3 := by
          by_cases w : i + 1 < Bpt B z
          · rw [if_pos ((I_lt (by omega) (by omega) (by omega) (by omega)).mpr w), e3, if_pos w, show (1200 : Int32) = I 1200 from rfl, show (5 : Int32) = I 5 from rfl, I_mul, I_add, I_add, m_join (by omega) (by omega) C5 (by omega)]; rfl
          · rw [if_neg (fun x => w ((I_lt (by omega) (by omega) (by omega) (by omega)).mp x)), e3, if_neg w]
        have fr : ∀ c, c ≠ 29 → τ3.1 c = τ2.1 c := fun c x => by
          rw [e3]
          by_cases w : i + 1 < Bpt B z
          · rw [if_pos w]; unfold jn29; rw [seti_r x, seti_r x]
          · rw [if_neg w]
        have fr2 : τ3.2 = τ2.2 := by
          rw [e3]
          by_cases w : i + 1 < Bpt B z
          · rw [if_pos w]; rfl
          · rw [if_neg w]
        have hR0 : Rel n ch K N B L σ0 τ0 (k + 1 + 1) (k + 1) D' g τ3 := rel_c (rel_m C3 (fun c _ y _ _ _ => fr c y) (fun j x => by rw [fr 0 (by omega)]) fr2) (fun c x _ => j2 c x) j3
        obtain ⟨τ4, D1, D2, D3⟩ := rel_take E hR0
        rw [hk2.1] at D3
        have f0 : g.1 1 4 = (0 : Int32) := D3.2.2.2.2.2.2.2.1
        have gT : g.1 9 7 = I (kT K (k + 1 + 1)) := D3.1.2.2.2.2.1
        have tt3 := tks_T hK D3.1.2.1 D3.1.2.2.1
        have tb3 := tt_b tt3.1
        have e44 := m_sg hK D3.2.1 (c := 44) (by decide)
        have e41 := m_sg hK D3.2.1 (c := 41) (by decide)
        have sd : g.1 8 = σ.1 8 ∧ τ4.1 32 = τ.1 32 := ⟨by rw [j2 8 (by omega), C8, A2.1 8 (by omega)], by rw [D2.1 32 (by omega), fr 32 (by omega), C9 32 (by omega), B2.1 32 (by omega)]⟩
        have mstep : ∀ Y, f_X12_readSide_L64 F (I s) (I z) (I S) (I 1) (rkA F (I z) (I S) (I 1)) tkC tkA (m + 1) (I (i + 1 + 1)) (I (if kT K (k + 1 + 1) = 44 then 1 else 0)) τ4 = Y → MS F s z S (m + 1 + 1) i (I 1) τ = Y := by
          intro Y hY
          unfold MS
          rw [f_X12_readSide_L64, if_neg (by decide), B1, Option.bind_some, if_pos m1, C2, Option.bind_some, if_neg (fun q => by have := (Ilt (0) (0) (by omega) (by omega) (by omega) (by omega)).mp q; omega), if_pos i16, xz, t18]
          show (Option.bind (if I (i + 1) < I (Bpt B z) then _ else some τ2) _) = _
          rw [jn, Option.bind_some, Option.bind_some, D1, Option.bind_some, show (44 : Int32) = I 44 from rfl, e44, Option.bind_some, ei2]
          exact hY
        have hJ : i + 1 < Bpt B z → ∀ (G : Prop) (A : Int → Prop), Low B D A → (∀ p, i < p → p < Bpt B z → ¬ A (1200 + 5 * s + p)) → JG G D A σ τ → JG G D' (fun x => A x ∨ (Vx B D' x ∧ ¬ Vx B D x) ∨ x = 1200 + 5 * s + (i + 1)) g τ4 := by
          intro hi G A lo ha hj hG h2
          have h0 := hj hG (dx_al C4 h2)
          obtain ⟨cve, vD', vD, vall⟩ := C11 h2
          have vok := (vx_ok vD').1
          have vlt := (vx_ok vD').2
          have xok : Vok (1200 + 5 * s + (i + 1)) := Or.inr (by omega)
          have jj := jr_join (x := 1200 + 5 * s + (i + 1)) (y := v) (jr_fr (σ' := σ2) (τ' := τ2) h0 (by rw [C7, A2.1 3 (by omega)]) (by rw [C9 29 (by omega), B2.1 29 (by omega)])) (ha (i + 1) (by omega) hi) (fun q => by
            rcases lo v q with w | w
            · exact vD w
            · omega) (by omega) xok vok
          have i4 : I i < (4 : Int32) := (Ilt (4) (4) (by omega) (by omega) (by omega) (by omega)).mpr (by omega)
          have jc := j4 i4
          rw [c_outer s0 s1 i0 (by omega), cve, c_join xok vok] at jc
          have jc' := Option.some.inj jc
          refine jr_iff (jr_fr (σ' := g) (τ' := τ4) jj (by rw [jc']) ?_) (fun x => ?_)
          · rw [D2.1 29 (by omega), e3, if_pos hi]; rfl
          · constructor
            · rintro (q | q | q)
              · exact Or.inl q
              · rcases (vall x).mp q.1 with w | w
                · exact absurd w q.2
                · exact Or.inr (Or.inr w)
              · exact Or.inr (Or.inl q)
            · rintro (q | q | q)
              · exact Or.inl q
              · exact Or.inr (Or.inr q)
              · rw [q]; exact Or.inr (Or.inl ⟨vD', vD⟩)
        by_cases t44 : kT K (k + 1 + 1) = 44
        · have hk3 := tt3.2.1 (by rw [t44]; decide)
          have cstep : CSn F s z S (m + 1 + 1) i σ = CSn F s z S (m + 1) (i + 1) g := by
            unfold CSn
            rw [f_X6_readSideNames_L2, A1, Option.bind_some, if_pos s2, show f_X6_readName F (0 : Int32) σ1 = _ from C1, Option.bind_some]
            show Option.bind (Option.bind (if I i < (4 : Int32) then _ else _) _) _ = _
            rw [j1, Option.bind_some, ei, Option.bind_some, if_pos ⟨f0, by rw [gT, t44]; rfl, fun q => by
              have := (Ile' (4000) (4000) (by omega) (by omega) (by omega) (by omega)).mp q
              omega⟩]
          have mst : MS F s z S (m + 1 + 1) i (I 1) τ = MS F s z S (m + 1) (i + 1) (I 1) τ4 := by
            apply mstep
            rw [if_pos t44]; rfl
          rcases ih (i + 1) (k + 1 + 1) D' g τ4 (by omega) (by omega) (by rw [t44]; decide) (by omega) D3 with ⟨σ', τ', G1, G2, G3⟩ | ⟨k', D2', σ', τ', G0, G1, G2, G3, G4, G5, G6, G7⟩
          · left
            exact ⟨σ', τ', by rw [cstep]; exact G1, by rw [mst]; exact G2, G3⟩
          · right
            refine ⟨k', D2', σ', τ', by omega, by rw [cstep]; exact G1, by rw [mst]; exact G2, G3, dx_tr C4 G4, by omega, ⟨by rw [G6.1, sd.1], by rw [G6.2, sd.2]⟩, fun G A lo ha hj => ?_⟩
            have h1 := hJ (by omega) G A lo ha hj
            have h2 := G7 G _ (fun x hx => by
              rcases hx with q | q | q
              · rcases lo x q with w | w
                · exact Or.inl (dx_v C4 w)
                · exact Or.inr w
              · exact Or.inl q.1
              · exact Or.inr (by omega)) (fun p hp hq w => by
              rcases w with w | w | w
              · exact ha p (by omega) hq w
              · have := (vx_ok w.1).2; omega
              · omega) h1
            intro hG h3
            refine jr_iff (h2 hG h3) (fun x => ?_)
            constructor
            · rintro (q | q | q)
              · exact Or.inl (Or.inl q)
              · by_cases w : Vx B D' x
                · exact Or.inl (Or.inr (Or.inl ⟨w, q.2⟩))
                · exact Or.inr (Or.inl ⟨q.1, w⟩)
              · by_cases w : x = 1200 + 5 * s + (i + 1)
                · exact Or.inl (Or.inr (Or.inr w))
                · exact Or.inr (Or.inr (by omega))
            · rintro ((q | q | q) | q | q)
              · exact Or.inl q
              · exact Or.inr (Or.inl ⟨dx_v G4 q.1, q.2⟩)
              · exact Or.inr (Or.inr (by omega))
              · exact Or.inr (Or.inl ⟨q.1, fun w => q.2 (dx_v C4 w)⟩)
              · exact Or.inr (Or.inr (by omega))
        · have cstep : CSn F s z S (m + 1 + 1) i σ = Option.bind (f_X6_pass (I 41) g) (fun u => f_X6_askBracket (I z) (I (i + 1)) (I S) u) := by
            unfold CSn
            rw [f_X6_readSideNames_L2, A1, Option.bind_some, if_pos s2, show f_X6_readName F (0 : Int32) σ1 = _ from C1, Option.bind_some]
            show Option.bind (Option.bind (if I i < (4 : Int32) then _ else _) _) _ = _
            rw [j1, Option.bind_some, ei, Option.bind_some, if_neg (fun x => by have := x.2.1; rw [gT] at this; exact t44 ((Ieq (44) (44) (by omega) (by omega) (by omega) (by omega)).mp this))]
            unfold kkA
            rw [if_pos f0, show (41 : Int32) = I 41 from rfl]
            cases f_X6_pass (I 41) g <;> rfl
          have mst : ∀ Y, rkA F (I z) (I S) (I 1) (I (i + 1 + 1), τ4) = Y → MS F s z S (m + 1 + 1) i (I 1) τ = Y := by
            intro Y hY
            apply mstep
            rw [if_neg t44, f_X12_readSide_L64, if_pos (show I 0 = (0 : Int32) from rfl)]
            exact hY
          have t18' : τ4.1 18 z.toNat = I (Bpt B z) := (rel_km E D3.2.2.2.1).2.2.1 z z0 z1
          have cp := c_pss E (c := 41) (by omega) (by omega) D3
          by_cases t41 : kT K (k + 1 + 1) = 41
          · have hk3 := tt3.2.1 (by rw [t41]; decide)
            obtain ⟨σ5, F1, F2, F3⟩ := cp.1 t41
            have g5 : σ5.1 1 4 = (0 : Int32) := F3.2.2.2.2.2.2.2.1
            have pc := c_ports hV (rel_kc E F3.2.2.1) z0 z1
            have eq1 : I (Bpt B z) - (1 : Int32) = I (Bpt B z - 1) := by rw [show (1 : Int32) = I 1 from rfl, I_sub]
            have sg : f_X12_isSign (41 : Int32) τ4 = I 1 := by rw [show (41 : Int32) = I 41 from rfl, e41, if_pos t41]
            by_cases hc : i + 1 + 1 = Bpt B z
            · right
              obtain ⟨τ5, G1, G2, G3⟩ := rel_take E F3
              rw [hk3.1] at G3
              refine ⟨k + 1 + 1 + 1, D', σ5, τ5, by omega, ?_, ?_, G3, C4, by omega, ⟨by rw [F2.1 8 (by omega), sd.1], by rw [G2.1 32 (by omega), sd.2]⟩, fun G A lo ha hj => ?_⟩
              · rw [cstep, F1, Option.bind_some]
                unfold f_X6_askBracket
                rw [if_pos g5, pc, Option.bind_some, eq1, if_pos (by rw [← hc, show i + 1 + 1 - 1 = i + 1 by omega])]
              · apply mst
                unfold rkA
                rw [if_pos (Or.inr (by rw [sg]; decide)), if_pos i16, xz, t18', if_pos (by rw [hc]), if_neg (by decide), G1]
                rfl
              · have h1 := jg_fr (hJ (by omega) G A lo ha hj) (σ' := σ5) (τ' := τ5) (F2.1 3 (by omega)) (by rw [G2.1 29 (by omega)])
                intro hG h2
                refine jr_iff (h1 hG h2) (fun x => ?_)
                constructor
                · rintro (q | q | q)
                  · exact Or.inl q
                  · exact Or.inr (Or.inl q)
                  · exact Or.inr (Or.inr (by omega))
                · rintro (q | q | q)
                  · exact Or.inl q
                  · exact Or.inr (Or.inl q)
                  · exact Or.inr (Or.inr (by omega))
            · left
              refine ⟨_, _, ?_, ?_, flt_go (z := S) (c := 5) F3.2.2.1 D3.2.2.2.1 (by omega) (by omega)⟩
              · rw [cstep, F1, Option.bind_some]
                unfold f_X6_askBracket
                rw [if_pos g5, pc, Option.bind_some, eq1, if_neg (fun q => by have := (I_eq (by omega) (by omega) (by omega) (by omega)).mp q; omega)]
                rfl
              · apply mst
                unfold rkA
                rw [if_pos (Or.inr (by rw [sg]; decide)), if_pos i16, xz, t18', if_neg (fun q => by have := (I_eq (by omega) (by omega) (by omega) (by omega)).mp q; omega)]
                rfl
          · left
            have fg := flt_go (z := kS K (k + 1 + 1)) D3.2.2.1 D3.2.2.2.1 (wc_b (kT K (k + 1 + 1))).1 (wc_b (kT K (k + 1 + 1))).2
            refine ⟨_, _, ?_, ?_, fg⟩
            · rw [cstep, cp.2 t41, Option.bind_some]
              unfold f_X6_askBracket
              rw [if_neg (flt_ne fg)]
            · apply mst
              unfold rkA
              rw [if_neg (by rintro (q | q); exact absurd q (by decide); exact q (by rw [show (41 : Int32) = I 41 from rfl, e41, if_neg t41]; rfl)), m_wrong hK D3.2.1]
              rfl
    · left
      have n2 : ¬ (σ1.1 9 7 = (2 : Int32)) := fun q => by rw [sT] at q; exact t2 ((Ieq (2) (2) (by omega) (by omega) (by omega) (by omega)).mp q)
      have m1 : ¬ (τ1.1 0 29 = (1 : Int32)) := fun q => by rw [mT] at q; exact t2 (mt.1.mp ((Ieq (1) (1) (by omega) (by omega) (by omega) (by omega)).mp q))
      have fg := flt_go (z := kS K (k + 1)) B3.2.2.1 B3.2.2.2.1 (wc_b (kT K (k + 1))).1 (wc_b (kT K (k + 1))).2
      refine ⟨_, _, ?_, ?_, fg⟩
      · unfold CSn
        rw [f_X6_readSideNames_L2, A1, Option.bind_some, if_neg n2]
        unfold kkB
        rw [c_wrong hK B3.1, Option.bind_some, Option.bind_some]
        unfold f_X6_askBracket
        rw [if_neg (flt_ne fg)]
      · unfold MS
        rw [f_X12_readSide_L64, if_neg (by decide), B1, Option.bind_some, if_neg m1]
        exact tkA_e hK B3.2.1
/-- one side of a rule -/
theorem side_ok (E : EnvH F n ch K N B L σ0 τ0) {s k : Int} {D : DrT} {σ τ : St} (s0 : 0 ≤ s) (s1 : s ≤ 1) (h : Rel n ch K N B L σ0 τ0 k k D σ τ) : (∃ σ' τ', f_X6_readSide F (I s) σ = some σ' ∧ f_X12_readSide F (I s) τ = some (I 0, τ') ∧ Flt σ0 τ0 σ' τ') ∨ (∃ z k' D' σ' τ', k < k' ∧ f_X6_readSide F (I s) σ = some σ' ∧ f_X12_readSide F (I s) τ = some (I 1, τ') ∧ Rel n ch K N B L σ0 τ0 k' k' D' σ' τ' ∧ DXt D D' ∧ (0 ≤ z ∧ z < Bkn B) ∧ (σ'.1 8 = (seti σ 8 s.toNat (I z)).1 8 ∧ τ'.1 32 = (seti τ 32 s.toNat (I z)).1 32) ∧ (∀ (G : Prop) (A : Int → Prop), Low B D A → (∀ p, 0 < p → p < Bpt B z → ¬ A (1200 + 5 * s + p)) → JG G D A σ τ → JG G D' (fun x => A x ∨ (Vx B D' x ∧ ¬ Vx B D x) ∨ (1200 + 5 * s < x ∧ x < 1200 + 5 * s + Bpt B z)) σ' τ')) := by
  have hK := E.2.1
  have hV := E.2.2.2.1
  have n4 := E.1.2.1
  have hF := E.2.2.1
  have tN1 := hK.2.1
  have b16 := hV.2.1
  have k0 := h.1.2.1
  have k1 := h.1.2.2.1
  have tt := tks_T hK k0 k1
  have tb := tt_b tt.1
  have mt := mty_c tt.1
  have sT : σ.1 9 7 = I (kT K k) := h.1.2.2.2.2.1
  have sS : σ.1 9 8 = I (kS K k) := h.1.2.2.2.2.2.1
  have sW : σ.2 9 9 = kW K k := h.1.2.2.2.2.2.2
  have mT : τ.1 0 29 = I (mty (kT K k)) := h.2.1.2.2.2.1
  have mS : τ.1 0 30 = I (kS K k) := h.2.1.2.2.2.2.1
  by_cases t3 : kT K k = 3
  · have hk2 := tt.2.1 (by rw [t3]; decide)
    have mW : τ.2 0 32 = kW K k := (h.2.1.2.2.2.2.2.2.1 (Or.inr t3)).1
    have s3 : σ.1 9 7 = (3 : Int32) := by rw [sT, t3]; rfl
    have m2 : τ.1 0 29 = (2 : Int32) := by rw [mT, mt.2.1.mpr t3]; rfl
    obtain ⟨z, hz⟩ := find_z E.2.2.2.2.1 (kW K k)
    have cf := c_find hF hV (rel_kc E h.2.2.1) hz
    have mf := m_find hF hV (rel_km E h.2.2.2.1) hz
    by_cases zn : z = -1
    · left
      refine ⟨_, _, ?_, ?_, flt_go (z := kS K k) (c := 3) h.2.2.1 h.2.2.2.1 (by omega) (by omega)⟩
      · unfold f_X6_readSide
        rw [if_pos s3, sW, cf, Option.bind_some, Option.bind_some, if_pos s3, if_pos (by rw [zn]; rfl), show (3 : Int32) = I 3 from rfl, c_refuse h.1]
        rfl
      · unfold f_X12_readSide
        rw [if_pos m2, mW, mf, Option.bind_some, mS, Option.bind_some, if_pos (by rw [zn]; decide)]
        rfl
    · have z0 : 0 ≤ z := by rcases hz with q | q <;> omega
      have z1 : z < Bkn B := by rcases hz with q | q <;> omega
      have zc : ¬ (I z = (-1 : Int32)) := fun q => by have := (Ieq (-1) (-1) (by omega) (by omega) (by omega) (by omega)).mp q; omega
      have zm : ¬ (I z < (0 : Int32)) := fun q => by have := (Ilt (0) (0) (by omega) (by omega) (by omega) (by omega)).mp q; omega
      have pb := hV.2.2.1 z z0 z1
      have hA : Rel n ch K N B L σ0 τ0 k k D (seti σ 8 s.toNat (I z)) (seti τ 32 s.toNat (I z)) := rel_c (rel_m h (fun c _ _ y _ _ => seti_r y) (fun j _ => by rw [seti_r (by omega)]) rfl) (fun c _ x => seti_r x) rfl
      obtain ⟨σ1, C1, C2, C3⟩ := rel_adv E hA
      obtain ⟨τ1, D1, D2, D3⟩ := rel_take E C3
      rw [hk2.1] at D3
      have i2 : inb (I s) 2 = true := (I_inb (by omega) (by omega)).mpr ⟨by omega, by omega⟩
      have i16 : inb (I z) 16 = true := (I_inb (by omega) (by omega)).mpr ⟨by omega, by omega⟩
      have xs : ix (I s) = s.toNat := I_ix (by omega) (by omega)
      have xz : ix (I z) = z.toNat := I_ix (by omega) (by omega)
      have sT1 : σ1.1 9 7 = I (kT K (k + 1)) := D3.1.2.2.2.2.1
      have tt1 := tks_T hK D3.1.2.1 D3.1.2.2.1
      have tb1 := tt_b tt1.1
      have e40 := m_sg hK D3.2.1 (c := 40) (by decide)
      have es : (if I s = 0 then some (0 : Int32) else some (1 : Int32)) = some (I s) := by
        by_cases w : s = 0
        · rw [w]; rfl
        · rw [show s = 1 by omega]; rfl
      have cls : ∀ Y : Option St, (Option.bind (if (σ1.1 9 7) = (40 : Int32) then (Option.bind (f_X6_readSideNames F (I s) σ1) fun x15 => some (x15.1, x15.2)) else (some ((0 : Int32), σ1))) fun t13 => Option.bind (f_X6_askBracket (I z) t13.1 (I (kS K k)) t13.2) fun s16 => some s16) = Y → f_X6_readSide F (I s) σ = Y := by
        intro Y hY
        unfold f_X6_readSide
        rw [if_pos s3, sW, cf, Option.bind_some, Option.bind_some, if_pos s3, if_neg zc, sS, Option.bind_some, es, Option.bind_some, if_pos i2, xs, Option.bind_some, C1, Option.bind_some]
        exact hY
      have ref : ∀ Y, (f_X12_readSide_L64 F (I s) (I z) (I (kS K k)) (I (if kT K (k + 1) = 40 then 1 else 0)) (rkA F (I z) (I (kS K k)) (I (if kT K (k + 1) = 40 then 1 else 0))) tkC tkA F (I 1) (I (if kT K (k + 1) = 40 then 1 else 0)) τ1) = Y → f_X12_readSide F (I s) τ = Y := by
        intro Y hY
        unfold f_X12_readSide
        rw [if_pos m2, mW, mf, Option.bind_some, mS, Option.bind_some, if_neg zm, if_pos i2, xs, Option.bind_some, D1, Option.bind_some, show (40 : Int32) = I 40 from rfl, e40, Option.bind_some]
        exact hY
      by_cases q40 : kT K (k + 1) = 40
      · have sB : σ1.1 9 7 = (40 : Int32) := by rw [sT1, q40]; rfl
        rw [if_pos q40] at ref
        have cs : ∀ s', CSn F s z (kS K k) F 0 σ1 = some s' → f_X6_readSide F (I s) σ = some s' := by
          intro s' hs
          apply cls
          rw [if_pos sB]
          have hs' : Option.bind (f_X6_readSideNames F (I s) σ1) (fun x15 => f_X6_askBracket (I z) x15.1 (I (kS K k)) x15.2) = some s' := hs
          revert hs'
          cases f_X6_readSideNames F (I s) σ1 with
          | none => intro q; exact absurd q (by simp)
          | some x =>
            intro q
            rw [Option.bind_some] at q
            rw [Option.bind_some, Option.bind_some, q, Option.bind_some]
        rcases side_L (S := kS K k) E s0 s1 z0 z1 F 0 (k + 1) D σ1 τ1 (by omega) (by omega) (by rw [q40]; decide) (by omega) D3 with ⟨σ', τ', G1, G2, G3⟩ | ⟨k', D', σ', τ', G0, G1, G2, G3, G4, G5, G6, G7⟩
        · left
          exact ⟨σ', τ', cs _ G1, ref _ G2, G3⟩
        · right
          refine ⟨z, k', D', σ', τ', by omega, cs _ G1, ref _ G2, G3, G4, ⟨z0, z1⟩, ⟨by rw [G6.1, C2.1 8 (by omega)], by rw [G6.2, D2.1 32 (by omega)]⟩, fun G A lo ha hj => ?_⟩
          have := G7 G A lo ha (jg_fr hj (by rw [C2.1 3 (by omega), seti_r (by omega)]) (by rw [D2.1 29 (by omega), seti_r (by omega)]))
          rw [show 1200 + 5 * s + 0 = 1200 + 5 * s by omega] at this
          exact this
      · have sB : ¬ (σ1.1 9 7 = (40 : Int32)) := fun q => by rw [sT1] at q; exact q40 ((Ieq (40) (40) (by omega) (by omega) (by omega) (by omega)).mp q)
        have s0' : σ1.1 1 4 = (0 : Int32) := D3.2.2.2.2.2.2.2.1
        have pc := c_ports hV (rel_kc E D3.2.2.1) z0 z1
        have eq1 : I (Bpt B z) - (1 : Int32) = I (Bpt B z - 1) := by rw [show (1 : Int32) = I 1 from rfl, I_sub]
        have t18 : τ1.1 18 z.toNat = I (Bpt B z) := (rel_km E D3.2.2.2.1).2.2.1 z z0 z1
        rw [if_neg q40] at ref
        obtain ⟨F', hF'⟩ : ∃ F', F = F' + 1 := ⟨F - 1, by omega⟩
        have ref2 : ∀ Y, rkA F (I z) (I (kS K k)) (I 0) (I 1, τ1) = Y → f_X12_readSide F (I s) τ = Y := by
          intro Y hY
          apply ref
          have : ∀ k0 k1 k2, f_X12_readSide_L64 F (I s) (I z) (I (kS K k)) (I 0) k0 k1 k2 F (I 1) (I 0) τ1 = k0 (I 1, τ1) := by
            intro k0 k1 k2
            rw [hF', f_X12_readSide_L64, if_pos (show I 0 = (0 : Int32) from rfl)]
          rw [this]; exact hY
        by_cases hq : Bpt B z = 1
        · right
          refine ⟨z, k + 1, D, σ1, τ1, by omega, ?_, ?_, D3, dx_rfl D, ⟨z0, z1⟩, ⟨C2.1 8 (by omega), D2.1 32 (by omega)⟩, fun G A lo ha hj hG h2 => ?_⟩
          · apply cls
            rw [if_neg sB, Option.bind_some]
            unfold f_X6_askBracket
            rw [if_pos s0', pc, Option.bind_some, eq1, if_pos (by rw [hq]; rfl), Option.bind_some]
          · apply ref2
            unfold rkA
            rw [if_pos (Or.inl (show I 0 = (0 : Int32) from rfl)), if_pos i16, xz, t18, if_pos (by rw [hq]), if_pos (show I 0 = (0 : Int32) from rfl)]
            rfl
          · refine jr_iff (jr_fr (hj hG h2) (by rw [C2.1 3 (by omega), seti_r (by omega)]) (by rw [D2.1 29 (by omega), seti_r (by omega)])) (fun x => ⟨fun q => ?_, fun q => Or.inl q⟩)
            rcases q with q | q | q
            · exact q
            · exact absurd q.1 q.2
            · omega
        · left
          refine ⟨_, _, ?_, ?_, flt_go (z := kS K k) (c := 5) D3.2.2.1 D3.2.2.2.1 (by omega) (by omega)⟩
          · apply cls
            rw [if_neg sB, Option.bind_some]
            unfold f_X6_askBracket
            rw [if_pos s0', pc, Option.bind_some, eq1, if_neg (fun q => by have := (Ieq' (0) (0) (by omega) (by omega) (by omega) (by omega)).mp q; omega)]
            rfl
          · apply ref2
            unfold rkA
            rw [if_pos (Or.inl (show I 0 = (0 : Int32) from rfl)), if_pos i16, xz, t18, if_neg (show ¬ (I 1 = I (Bpt B z)) from fun q => hq ((I_eq (by omega) (by omega) (by omega) (by omega)).mp q).symm)]
            rfl
  · left
    have n3 : ¬ (σ.1 9 7 = (3 : Int32)) := fun q => by rw [sT] at q; exact t3 ((Ieq (3) (3) (by omega) (by omega) (by omega) (by omega)).mp q)
    have m2 : ¬ (τ.1 0 29 = (2 : Int32)) := fun q => by rw [mT] at q; exact t3 (mt.2.1.mp ((Ieq (2) (2) (by omega) (by omega) (by omega) (by omega)).mp q))
    refine ⟨_, _, ?_, ?_, flt_go (z := kS K k) h.2.2.1 h.2.2.2.1 (wc_b (kT K k)).1 (wc_b (kT K k)).2⟩
    · unfold f_X6_readSide
      rw [if_neg n3, Option.bind_some, if_neg n3, c_wrong hK h.1]
      rfl
    · unfold f_X12_readSide
      rw [if_neg m2, m_wrong hK h.2.1]
      rfl
end SDE
