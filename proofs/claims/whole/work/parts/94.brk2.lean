section BRK
variable {n : Int} {ch : Int → Int} {K : TkT} {N : Int} {B : BkT} {L : Int} {σ0 τ0 : St} {F Df : Nat}
/-- what a bracket gives -/
def BrkOK (F : Nat) (n : Int) (ch : Int → Int) (K : TkT) (N : Int) (B : BkT) (L : Int) (σ0 τ0 : St) (Df : Nat) (d a z S : Int) (f : Nat) (i k : Int) (D : DrT) (σ τ : St) : Prop :=
  (∃ σ' τ', CB F Df a d z S f i σ = some σ' ∧ Flt σ0 τ0 σ' τ' ∧ ∃ M : Nat, (M : Int) ≤ N - k ∧ ∀ n', Option.bind (f_X12_take F τ) (fun s => RT F (n' + M) (d + 1) s) = some (I 0, τ')) ∨
  (∃ k' D' σ' τ', k < k' ∧ CB F Df a d z S f i σ = some σ' ∧ Rel n ch K N B L σ0 τ0 k' k' D' σ' τ' ∧ DXt D D' ∧ i + 1 < Bpt B z ∧ τ'.1 0 60 = I (5 * a) ∧ Sk τ τ' d ∧ (σ'.1 8 = σ.1 8 ∧ τ'.1 32 = τ.1 32) ∧ (∃ M : Nat, (M : Int) ≤ k' - k ∧ ∀ n' X, (∀ m : Nat, d + 2 ≤ m → RI F n' m d (I 0) τ' = X) → Option.bind (f_X12_take F τ) (fun s => RT F (n' + M) (d + 1) s) = X) ∧ (∀ (G : Prop) (A : Int → Prop), Low B D A → (∀ p, p = 0 ∨ i < p → p < Bpt B z → ¬ A (5 * a + p)) → JG G D A σ τ → JG G D' (fun x => A x ∨ (Vx B D' x ∧ ¬ Vx B D x) ∨ (5 * a + i < x ∧ x < 5 * a + Bpt B z)) σ' τ'))
theorem bracket (E : EnvH F n ch K N B L σ0 τ0) {d a z S : Int} (d0 : 0 ≤ d) (d1 : d < 12) (hT : TermOK F n ch K N B L σ0 τ0 Df (d + 1)) (z0 : 0 ≤ z) (z1 : z < Bkn B) (a0 : 0 ≤ a) : ∀ (f : Nat) (i k : Int) (D : DrT) (σ τ : St), 0 ≤ i → i ≤ k → kT K k ≠ 1 → N - k < f → Rel n ch K N B L σ0 τ0 k k D σ τ → a < Dna D → Dak D a = z → Dap D a = S → τ.1 33 d.toNat = I a → τ.1 34 d.toNat = I (i + 1) → BrkOK F n ch K N B L σ0 τ0 Df d a z S f i k D σ τ := by
  have hK := E.2.1
  have hV := E.2.2.2.1
  have n4 := E.1.2.1
  have tN1 := hK.2.1
  have L2 : L ≤ 200 := by have := E.2.2.2.2.2.2.2; omega
  have q1 := hV.2.2.1 z z0 z1
  have b16 := hV.2.1
  intro f
  induction f with
  | zero => intro i k D σ τ _ _ _ hf h; have := h.1.2.2.1; omega
  | succ f ih =>
    intro i k D σ τ i0 ik hk1 hf h a1 ak ap s33 s34
    have hk0 := h.1.2.1
    have hkk := (tks_T hK h.1.2.1 h.1.2.2.1).2.1 hk1
    obtain ⟨σ1, A1, A2, A3⟩ := rel_adv E h
    obtain ⟨τ1, B1, B2, B3⟩ := rel_take E A3
    rw [hkk.1] at B3
    have ei : I i + (1 : Int32) = I (i + 1) := by rw [show (1 : Int32) = I 1 from rfl, I_add]
    have ed : I d + (1 : Int32) = I (d + 1) := by rw [show (1 : Int32) = I 1 from rfl, I_add]
    rcases hT (k + 1) D σ1 τ1 B3 with ⟨cv, σ2, τ2, C1, C2, M, M1, C3⟩ | ⟨k', D', v, cv, σ2, τ2, k'k, C1, C2, C3, C4, C5, C6, C7, ⟨M, M1, C8⟩, C9, C10⟩
    · left
      obtain ⟨g, j1, j2, j3, _⟩ := c_jif (I (i + 1)) (I a) cv σ2
      have fg := flt_c C2 j2 j3
      refine ⟨g, τ2, ?_, fg, M, by omega, fun n' => ?_⟩
      · unfold CB
        rw [f_X6_readBracket_L2, A1, Option.bind_some, ed, C1, Option.bind_some, ei, Option.bind_some]
        show Option.bind (Option.bind (Option.bind (if I (i + 1) < (5 : Int32) then _ else some σ2) _) _) _ = _
        rw [j1, Option.bind_some, if_neg (fun x => flt_ne fg x.1), Option.bind_some, if_neg (flt_ne fg), Option.bind_some]
        unfold f_X6_askBracket
        rw [if_neg (flt_ne fg)]
      · rw [B1, Option.bind_some]; exact C3 n'
    · have k'0 := C2.1.2.1
      have k'1 := C2.1.2.2.1
      have C5v := C5
      obtain ⟨g, j1, j2, j3, j4⟩ := c_jif (I (i + 1)) (I a) cv σ2
      have hD' := C2.2.2.2.2.1
      have naL : Dna D' ≤ 200 := by have := hD'.2.1; omega
      have aD' : a < Dna D' := by have := C3.1; omega
      have dx := C3.2.1 a a0 a1
      have sk := C6 d d0 (by omega)
      have t33 : τ2.1 33 d.toNat = I a := by rw [sk.1, B2.1 33 (by omega)]; exact s33
      have t34 : τ2.1 34 d.toNat = I (i + 1) := by rw [sk.2, B2.1 34 (by omega)]; exact s34
      have t27 : τ2.1 27 a.toNat = I z := by rw [(C2.2.2.2.2.2.2.1.2.2.2.1 a a0 aD').1, dx.1, ak]
      have t28 : τ2.1 28 a.toNat = I S := by rw [(C2.2.2.2.2.2.2.1.2.2.2.1 a a0 aD').2, dx.2, ap]
      have t18 : τ2.1 18 z.toNat = I (Bpt B z) := (rel_km E C2.2.2.2.1).2.2.1 z z0 z1
      obtain ⟨τ4, e4⟩ : ∃ τ4, τ4 = seti (if i + 1 < Bpt B z then jn29 τ2 (5 * a + (i + 1)) v else τ2) 34 d.toNat (I (i + 1 + 1)) := ⟨_, rfl⟩
      have rs := fun n' m' => ri_step (F := F) E.2.2.1 hK C2.2.1 d0 d1 a0 (by omega) z0 (by omega) q1.1 q1.2 C4.1 C4.2 (by omega) (by omega) t33 t34 t27 t18 C5v e4 n' m'
      have fr : ∀ c, c ≠ 29 → c ≠ 34 → τ4.1 c = τ2.1 c := fun c x y => by
        rw [e4, seti_r y]
        by_cases w : i + 1 < Bpt B z
        · rw [if_pos w]; unfold jn29; rw [seti_r x, seti_r x]
        · rw [if_neg w]
      have fr2 : τ4.2 = τ2.2 := by
        rw [e4, seti2]
        by_cases w : i + 1 < Bpt B z
        · rw [if_pos w]; rfl
        · rw [if_neg w]
      have hR : Rel n ch K N B L σ0 τ0 k' k' D' g τ4 := rel_c (rel_m C2 (fun c x y _ _ w => fr c y w) (fun j x => by rw [fr 0 (by omega) (by omega)]) fr2) (fun c x _ => j2 c x) j3
      have sk4 : Sk τ τ4 d := by
        intro l l0 l1
        have hs := C6 l l0 (by omega)
        rw [fr 33 (by omega) (by omega), hs.1, B2.1 33 (by omega)]
        refine ⟨rfl, ?_⟩
        rw [e4, seti1, if_neg (by omega)]
        have : (if i + 1 < Bpt B z then jn29 τ2 (5 * a + (i + 1)) v else τ2).1 34 l.toNat = τ2.1 34 l.toNat := by
          by_cases w : i + 1 < Bpt B z
          · rw [if_pos w]; unfold jn29; rw [seti_r (by omega), seti_r (by omega)]
          · rw [if_neg w]
        rw [this, hs.2, B2.1 34 (by omega)]
      have sd : g.1 8 = σ.1 8 ∧ τ4.1 32 = τ.1 32 := ⟨by rw [j2 8 (by omega), C7.1, A2.1 8 (by omega)], by rw [fr 32 (by omega) (by omega), C7.2, B2.1 32 (by omega)]⟩
      -- what is joined now
      have hJ : i + 1 < Bpt B z → ∀ (G : Prop) (A : Int → Prop), Low B D A → (∀ p, p = 0 ∨ i < p → p < Bpt B z → ¬ A (5 * a + p)) → JG G D A σ τ → JG G D' (fun x => A x ∨ (Vx B D' x ∧ ¬ Vx B D x) ∨ x = 5 * a + (i + 1)) g τ4 := by
        intro hi G A lo ha hj hG h2
        have h0 := C9 G A lo (jg_fr hj (A2.1 3 (by omega)) (B2.1 29 (by omega))) hG h2
        obtain ⟨cve, vD', vD⟩ := C10 h2
        have xD : Vx B D (5 * a + (i + 1)) := Or.inl ⟨by omega, by omega, by rw [show (5 * a + (i + 1)) / 5 = a by omega]; exact a1, by rw [show (5 * a + (i + 1)) / 5 = a by omega, ak]; omega⟩
        have xok := (vx_ok xD).1
        have vok := (vx_ok vD').1
        have vlt := (vx_ok vD').2
        have jj := jr_join (x := 5 * a + (i + 1)) (y := v) h0 (fun q => by
          rcases q with q | q
          · exact ha (i + 1) (Or.inr (by omega)) hi q
          · exact q.2.1 xD) (fun q => by
          rcases q with q | q
          · rcases lo v q with w | w
            · exact vD w
            · omega
          · exact q.2.2 rfl) (fun q => vD (by rw [← q]; exact xD)) xok vok
        have ex : pt (5 * a + (i + 1)) = 8 * a + (i + 1) := by
          unfold pt
          rw [if_pos (by omega)]; omega
        have i5 : I (i + 1) < (5 : Int32) := (Ilt (5) (5) (by omega) (by omega) (by omega) (by omega)).mpr (by omega)
        have jc := j4 i5
        have epc : f_X11_portCode (I a) (I (i + 1)) = I (pt (5 * a + (i + 1))) := by
          unfold f_X11_portCode
          rw [show (8 : Int32) = I 8 from rfl, I_mul, I_add, ex]
        rw [epc, cve, c_join xok vok] at jc
        have jc' := Option.some.inj jc
        refine jr_iff (jr_fr (σ' := g) (τ' := τ4) jj (by rw [jc']) ?_) (fun x => ?_)
        · rw [e4, seti_r (by omega), if_pos hi]; rfl
        · constructor
          · rintro (q | q | q)
            · exact Or.inl (Or.inl q)
            · by_cases w : x = v
              · exact Or.inr (Or.inr w)
              · exact Or.inl (Or.inr ⟨q.1, q.2, w⟩)
            · exact Or.inr (Or.inl q)
          · rintro ((q | q) | q | q)
            · exact Or.inl q
            · exact Or.inr (Or.inl ⟨q.1, q.2.1⟩)
            · exact Or.inr (Or.inr q)
            · rw [q]; exact Or.inr (Or.inl ⟨vD', vD⟩)
      have f0 : g.1 1 4 = (0 : Int32) := hR.2.2.2.2.2.2.2.1
      have gT : g.1 9 7 = I (kT K k') := hR.1.2.2.2.2.1
      have tb := tt_b (tks_T hK k'0 k'1).1
      by_cases t44 : kT K k' = 44
      · -- a comma
        have hstep : CB F Df a d z S (f + 1) i σ = CB F Df a d z S f (i + 1) g := by
          unfold CB
          rw [f_X6_readBracket_L2, A1, Option.bind_some, ed, C1, Option.bind_some, ei, Option.bind_some]
          have cc : (g.1 1 4 = 0) ∧ ((g.1 9 7 = (44 : Int32)) ∧ ¬ ((4000 : Int32) ≤ I (i + 1))) := ⟨f0, by rw [gT, t44]; rfl, fun q => by
            have := (Ile' (4000) (4000) (by omega) (by omega) (by omega) (by omega)).mp q
            have := (tks_T hK k'0 k'1).2.1 (by rw [t44]; decide)
            omega⟩
          show Option.bind (Option.bind (Option.bind (if I (i + 1) < (5 : Int32) then _ else some σ2) _) _) _ = _
          rw [j1, Option.bind_some, if_pos cc]
        have t34' : τ4.1 34 d.toNat = I (i + 1 + 1) := by rw [e4, seti1, if_pos ⟨rfl, rfl⟩]
        have t33' : τ4.1 33 d.toNat = I a := by rw [fr 33 (by omega) (by omega)]; exact t33
        have hih := ih (i + 1) k' D' g τ4 (by omega) (by omega) (by rw [t44]; decide) (by omega) hR aD' (by rw [dx.1]; exact ak) (by rw [dx.2]; exact ap) t33' t34'
        have go : ∀ n' X, Option.bind (f_X12_take F τ4) (fun s => RT F n' (d + 1) s) = X → Option.bind (f_X12_take F τ) (fun s => RT F (n' + M) (d + 1) s) = X := by
          intro n' X hX
          rw [B1, Option.bind_some]
          apply C8
          intro m hm
          obtain ⟨m', rfl⟩ : ∃ m', m = m' + 1 := ⟨m - 1, by omega⟩
          rw [(rs n' m').1 t44, ← hX]
          congr 1
          funext s
          obtain ⟨m'', rfl⟩ : ∃ m'', m' = m'' + 1 := ⟨m' - 1, by omega⟩
          exact ri_one
        rcases hih with ⟨σ', τ', D1, D2, M2, D3, D4⟩ | ⟨k2, D2, σ', τ', kk, E1, E2, E3, E4, E5, E6, E7, ⟨M2, E8, E9⟩, E10⟩
        · left
          refine ⟨σ', τ', by rw [hstep]; exact D1, D2, M2 + M, by omega, fun n' => ?_⟩
          rw [← Nat.add_assoc]
          exact go _ _ (D4 n')
        · right
          refine ⟨k2, D2, σ', τ', by omega, by rw [hstep]; exact E1, E2, dx_tr C3 E3, by omega, E5, skk_tr sk4 E6 (Int.le_refl _), ⟨by rw [E7.1, sd.1], by rw [E7.2, sd.2]⟩, ⟨M2 + M, by omega, fun n' X hX => ?_⟩, fun G A lo ha hj => ?_⟩
          · rw [← Nat.add_assoc]
            exact go _ _ (E9 n' X hX)
          · have h1 := hJ (by omega) G A lo ha hj
            have h2 := E10 G _ (fun x hx => by
              rcases hx with q | q | q
              · rcases lo x q with w | w
                · exact Or.inl (dx_v C3 w)
                · exact Or.inr w
              · exact Or.inl q.1
              · rw [q]
                refine Or.inl (dx_v C3 (Or.inl ⟨by omega, by omega, ?_, ?_⟩))
                · rw [show (5 * a + (i + 1)) / 5 = a by omega]; exact a1
                · rw [show (5 * a + (i + 1)) / 5 = a by omega, ak]; omega) (fun p hp hq w => by
              have xD : Vx B D (5 * a + p) := Or.inl ⟨by omega, by omega, by rw [show (5 * a + p) / 5 = a by omega]; exact a1, by rw [show (5 * a + p) / 5 = a by omega, ak]; omega⟩
              rcases w with w | w | w
              · exact ha p (by omega) hq w
              · exact w.2 xD
              · omega) h1
            intro hG h3
            refine jr_iff (h2 hG h3) (fun x => ?_)
            constructor
            · rintro (q | q | q)
              · exact Or.inl (Or.inl q)
              · by_cases w : Vx B D' x
                · exact Or.inl (Or.inr (Or.inl ⟨w, q.2⟩))
                · exact Or.inr (Or.inl ⟨q.1, w⟩)
              · by_cases w : x = 5 * a + (i + 1)
                · exact Or.inl (Or.inr (Or.inr w))
                · exact Or.inr (Or.inr (by omega))
            · rintro ((q | q | q) | q | q)
              · exact Or.inl q
              · exact Or.inr (Or.inl ⟨dx_v E3 q.1, q.2⟩)
              · exact Or.inr (Or.inr (by omega))
              · exact Or.inr (Or.inl ⟨q.1, fun w => q.2 (dx_v C3 w)⟩)
              · exact Or.inr (Or.inr (by omega))
      · -- the bracket ends, or should
        have hloop : CB F Df a d z S (f + 1) i σ = Option.bind (f_X6_pass (41 : Int32) g) (fun s => f_X6_askBracket (I z) (I (i + 1)) (I S) s) := by
          unfold CB
          rw [f_X6_readBracket_L2, A1, Option.bind_some, ed, C1, Option.bind_some, ei, Option.bind_some]
          have cc : ¬ ((g.1 1 4 = 0) ∧ ((g.1 9 7 = (44 : Int32)) ∧ ¬ ((4000 : Int32) ≤ I (i + 1)))) := fun q => by
            have := q.2.1
            rw [gT] at this
            exact t44 ((Ieq (44) (44) (by omega) (by omega) (by omega) (by omega)).mp this)
          show Option.bind (Option.bind (Option.bind (if I (i + 1) < (5 : Int32) then _ else some σ2) _) _) _ = _
          rw [j1, Option.bind_some, if_neg cc, Option.bind_some, if_pos f0]
          cases f_X6_pass (41 : Int32) g <;> rfl
        by_cases t41 : kT K k' = 41
        · -- closed
          obtain ⟨σ5, F1, F2, F3⟩ := rel_adv E hR
          have hk2 := (tks_T hK k'0 k'1).2.1 (by rw [t41]; decide)
          have hp : f_X6_pass (41 : Int32) g = some σ5 := by
            unfold f_X6_pass
            rw [if_pos (by rw [gT, t41]; rfl), F1]; rfl
          have g5 : σ5.1 1 4 = (0 : Int32) := F3.2.2.2.2.2.2.2.1
          have pc := c_ports hV (rel_kc E F3.2.2.1) z0 z1
          have eq1 : I (Bpt B z) - (1 : Int32) = I (Bpt B z - 1) := by rw [show (1 : Int32) = I 1 from rfl, I_sub]
          by_cases hc : i + 1 + 1 = Bpt B z
          · right
            have hR6 : Rel n ch K N B L σ0 τ0 (nx N k') k' D' σ5 (seti τ4 0 60 (I (5 * a))) := rel_m F3 (fun c x _ _ _ _ => seti_r x) (fun j x => by rw [seti1, if_neg (by omega)]) rfl
            obtain ⟨τ5, G1, G2, G3⟩ := rel_take E hR6
            rw [hk2.1] at G3
            refine ⟨k' + 1, D', σ5, τ5, by omega, ?_, G3, C3, by omega, ?_, ?_, ?_, ⟨M, by omega, fun n' X hX => ?_⟩, fun G A lo ha hj => ?_⟩
            · rw [hloop, hp, Option.bind_some]
              unfold f_X6_askBracket
              rw [if_pos g5, pc, Option.bind_some, eq1, if_pos (by rw [← hc, show i + 1 + 1 - 1 = i + 1 by omega])]
            · rw [G2.2.1 60 (by omega) (by omega) (by omega) (by omega) (by omega), seti1, if_pos ⟨rfl, rfl⟩]
            · exact skk_tr sk4 (skk_eq (fun c x => by rw [G2.1 c (by omega), seti_r (by omega)])) (Int.le_refl _)
            · exact ⟨by rw [F2.1 8 (by omega), sd.1], by rw [G2.1 32 (by omega), seti_r (by omega), sd.2]⟩
            · rw [B1, Option.bind_some]
              apply C8
              intro m hm
              obtain ⟨m', rfl⟩ : ∃ m', m = m' + 1 := ⟨m - 1, by omega⟩
              rw [(rs n' m').2.1 t41 hc, G1, Option.bind_some]
              exact hX m' (by omega)
            · have h1 := jg_fr (hJ (by omega) G A lo ha hj) (σ' := σ5) (τ' := τ5) (F2.1 3 (by omega)) (by rw [G2.1 29 (by omega), seti_r (by omega)])
              intro hG h2
              refine jr_iff (h1 hG h2) (fun x => ?_)
              constructor
              · rintro (q | q | q)
                · exact Or.inl q
                · exact Or.inr (Or.inl q)
                · exact Or.inr (Or.inr (by omega))
              · rintro (q | q | q)
                · exact Or.inl q
                · exact Or.inr (Or.inl q)
                · exact Or.inr (Or.inr (by omega))
          · left
            refine ⟨seti (seti σ5 1 4 (I 5)) 1 7 (I S), seti (seti τ4 0 35 (I 5)) 0 2 (I S), ?_, flt_go F3.2.2.1 hR.2.2.2.1 (by omega) (by omega), M, by omega, fun n' => ?_⟩
            · rw [hloop, hp, Option.bind_some]
              unfold f_X6_askBracket
              rw [if_pos g5, pc, Option.bind_some, eq1, if_neg (fun q => by have := (I_eq (by omega) (by omega) (by omega) (by omega)).mp q; omega)]
              rfl
            · rw [B1, Option.bind_some]
              apply C8
              intro m hm
              obtain ⟨m', rfl⟩ : ∃ m', m = m' + 1 := ⟨m - 1, by omega⟩
              rw [(rs n' m').2.2.1 t41 hc]
              exact tkE_e a0 (by omega) (by rw [fr 28 (by omega) (by omega)]; exact t28)
        · left
          have hw := c_wrong hK hR.1
          have hp : f_X6_pass (41 : Int32) g = some (seti (seti g 1 4 (I (wc (kT K k')))) 1 7 (I (kS K k'))) := by
            unfold f_X6_pass
            rw [if_neg (fun q => by rw [gT] at q; exact t41 ((Ieq (41) (41) (by omega) (by omega) (by omega) (by omega)).mp q)), hw]; rfl
          have fg := flt_go (z := kS K k') hR.2.2.1 hR.2.2.2.1 (wc_b (kT K k')).1 (wc_b (kT K k')).2
          refine ⟨_, _, ?_, fg, M, by omega, fun n' => ?_⟩
          · rw [hloop, hp, Option.bind_some]
            unfold f_X6_askBracket
            rw [if_neg (flt_ne fg)]
          · rw [B1, Option.bind_some]
            apply C8
            intro m hm
            obtain ⟨m', rfl⟩ : ∃ m', m = m' + 1 := ⟨m - 1, by omega⟩
            rw [(rs n' m').2.2.2 t44 t41]
            exact tkA_e hK hR.2.1
end BRK
