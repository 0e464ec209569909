/-! the reference's ways -/
def MJ (B : BkT) (D : DrT) (Ou : Int → Prop) (r : Int → Int) (rl : Bool) (τ : St) : Prop := (∀ x, Dmv B D Ou x → (x < 1000 ∨ (x < 1200 ∧ (Dtm D ((x - 1000) / 2) = 2 ∨ x % 2 = 0)) ∨ (1200 ≤ x ∧ rl = true)) → τ.1 29 x.toNat = I (r x)) ∧ (∀ v, 0 ≤ v → v < Dnn D → τ.1 31 v.toNat = I (Dtm D v) ∧ (Dtm D v = 2 ∨ (Dtm D v = 1 ∧ rl = false ∧ Ou (r (1000 + 2 * v + 1)) ∧ τ.1 36 v.toNat = I (pt (r (1000 + 2 * v + 1)) - 1720)))) ∧ (rl = false → ∀ y, Ou y → SNv D (r y) ∧ (r y) % 2 = 1 ∧ Dtm D ((r y - 1000) / 2) = 1)
theorem mj_fr {B : BkT} {D : DrT} {Ou : Int → Prop} {r : Int → Int} {rl : Bool} {τ g : St} (h : MJ B D Ou r rl τ) (e : ∀ c, c = 29 ∨ c = 31 ∨ c = 36 → g.1 c = τ.1 c) : MJ B D Ou r rl g := by
  unfold MJ
  rw [e 29 (by omega), e 31 (by omega), e 36 (by omega)]
  exact h
def frf (rl : Bool) (y : Int) : Int := if y < 1000 then y else if rl = true then y else -2 - (pt y - 1720)
def fk0 : Int32 × St → Option (Int32 × St) := fun t18 => if inb t18.1 60 then (some ((-2 : Int32) - (t18.2.1 (36) (ix t18.1)), t18.2)) else none
section FOL
variable {B : BkT} {D : DrT} {Ou : Int → Prop} {r : Int → Int} {rl : Bool} {σ τ : St} {F : Nat}
theorem mkm_set {g : St} {M : Int → Prop} (h60 : Dnn D ≤ 60) (h : MkM D g M) {x : Int} (hx : SNv D x) : MkM D (seti g 35 x.toNat (I 1)) (fun z => M z ∨ z = x) := by
  intro z sz hz
  unfold SNv at hx sz
  rw [seti1]
  by_cases e : z = x
  · rw [if_pos ⟨rfl, by rw [e]⟩]
    exact ⟨fun _ => rfl, fun q => absurd (Or.inr e) q⟩
  · rw [if_neg (by omega)]
    have := h z sz hz
    refine ⟨fun q => ?_, fun q => this.2 (fun w => q (Or.inl w))⟩
    rcases q with q | q
    · exact this.1 q
    · exact absurd q e
theorem m_fol_L (h : ShtH B D Ou r) (hJ : MJ B D Ou r rl τ) {t y : Int} {k : Nat} (ht : Dmv B D Ou t) (hn : ¬ SNv D t) (hw : Way r tw (SNv D) t k y) : ∀ (m j : Nat) (M : Int → Prop) (g : St), j ≤ k → k - j < m → (t < 1000 ∨ 1 ≤ j ∨ rl = true) → (rl = true ∨ ¬ (SNv D (itr r tw j t) ∧ (itr r tw j t) % 2 = 1 ∧ Dtm D ((itr r tw j t - 1000) / 2) = 1)) → g.2 = τ.2 → (∀ c, c ≠ 35 → g.1 c = τ.1 c) → MkM D g (fun z => (M z ∨ OnL r tw t j z) ∨ z = itr r tw j t) → ∃ g', f_X12_follow_L2 F fk0 m (I (r (itr r tw j t))) g = some (I (frf rl y), g') ∧ g'.2 = τ.2 ∧ (∀ c, c ≠ 35 → g'.1 c = τ.1 c) ∧ MkM D g' (fun z => M z ∨ OnP r tw t k z) := by
  have hph := sh_ph h
  have h60 := h.2.2.2.1
  intro m
  induction m with
  | zero => intro j M g h1 h2; omega
  | succ m ih =>
    intro j M g h1 h2 hs hodd h3 h4 h5
    have dj : Dmv B D Ou (itr r tw j t) := itr_D hph ht j (fun l hl => hw.1 l (by omega))
    rw [f_X12_follow_L2]
    by_cases hj : j = k
    · have hy : r (itr r tw j t) = y := by rw [hj]; exact hw.2.2
      have hyD := (way_rev hph ht hn hw).1
      have hp := pt_t h hyD hw.2.1
      have hpp := dm_ok h hyD
      have hvb := vok_b hpp
      rw [hy, if_neg (fun q => by
        have a1 := (Ile' (1000) (1000) (by omega) (by omega) (by omega) (by omega)).mp q.1
        have a2 := (Ilt (1200) (1200) (by omega) (by omega) (by omega) (by omega)).mp q.2
        omega)]
      have ey : frf rl y = y := by
        unfold frf
        by_cases e1 : y < 1000
        · rw [if_pos e1]
        · rw [if_neg e1]
          by_cases e2 : rl = true
          · rw [if_pos e2]
          · exfalso
            have hO : Ou y := by
              rcases hyD with q | q | q
              · unfold Agv at q; omega
              · exact absurd q hw.2.1
              · exact q
            have rf : rl = false := by cases rl <;> simp_all
            have := hJ.2.2 rf y hO
            have er : r y = itr r tw j t := by rw [← hy, (hph.1 _ dj).2.1]
            rw [er] at this
            rcases hodd with q | q
            · exact e2 q
            · exact q this
      rw [ey]
      refine ⟨g, rfl, h3, h4, mkm_iff h5 (fun z sz _ => ?_)⟩
      constructor
      · rintro ((q | ⟨i, i1, i2⟩) | q)
        · exact Or.inl q
        · exact Or.inr ⟨i, by omega, i2⟩
        · exact Or.inr ⟨j, by omega, Or.inl q⟩
      · rintro (q | ⟨i, i1, i2⟩)
        · exact Or.inl (Or.inl q)
        · by_cases e : i < j
          · exact Or.inl (Or.inr ⟨i, e, i2⟩)
          · have ei : i = j := by omega
            rw [ei] at i2
            rcases i2 with i2 | i2
            · exact Or.inr i2
            · rw [i2, hy] at sz
              exact absurd sz hw.2.1
    · have hx := hw.1 j (by omega)
      have hx' := hx
      unfold SNv at hx'
      have htw := (hph.2 _ hx).2.1
      have htw' := htw
      unfold SNv at htw'
      obtain ⟨x, ex⟩ : ∃ x, x = r (itr r tw j t) := ⟨_, rfl⟩
      rw [← ex] at hx hx' htw htw' ⊢
      have hi : itr r tw (j + 1) t = tw x := by rw [ex]; rfl
      have hv := hJ.2.1 ((x - 1000) / 2) (by omega) (by omega)
      have i12 : inb (I x) 1211 = true := (I_inb (by omega) (by omega)).mpr ⟨by omega, by omega⟩
      have x12 : ix (I x) = x.toNat := I_ix (by omega) (by omega)
      have e1 : I x - (1000 : Int32) = I (x - 1000) := by rw [show (1000 : Int32) = I 1000 from rfl, I_sub]
      have e2 : I (x - 1000) / (2 : Int32) = I ((x - 1000) / 2) := I_div (b := 2) (by omega) (by omega) (by omega) (by omega)
      have i60 : inb (I ((x - 1000) / 2)) 60 = true := (I_inb (by omega) (by omega)).mpr ⟨by omega, by omega⟩
      have x60 : ix (I ((x - 1000) / 2)) = ((x - 1000) / 2).toNat := I_ix (by omega) (by omega)
      have m31 : (seti g 35 x.toNat (I 1)).1 31 ((x - 1000) / 2).toNat = I (Dtm D ((x - 1000) / 2)) := by rw [seti_r (by omega), h4 31 (by omega)]; exact hv.1
      have hset := mkm_set h60.2 h5 hx
      rw [if_pos ⟨(Ile' (1000) (1000) (by omega) (by omega) (by omega) (by omega)).mpr (by omega), (Ilt (1200) (1200) (by omega) (by omega) (by omega) (by omega)).mpr (by omega)⟩, if_pos i12, x12, Option.bind_some, e1, e2, Option.bind_some, if_pos i60, x60, show (seti g 35 x.toNat (1 : Int32)).1 31 ((x - 1000) / 2).toNat = _ from m31]
      rcases hv.2 with h2' | ⟨h1', rf, hO, h36⟩
      · -- it stands twice
        have e3 : ((((1000 : Int32) + ((2 : Int32) * I ((x - 1000) / 2))) + (1 : Int32)) - (I (x - 1000) - I ((x - 1000) / 2) * (2 : Int32))) = I (tw x) := by
          rw [show (1000 : Int32) = I 1000 from rfl, show (2 : Int32) = I 2 from rfl, show (1 : Int32) = I 1 from rfl, I_mul, I_mul, I_add, I_add, I_sub, I_sub, tw_e, show 1000 + 2 * ((x - 1000) / 2) + 1 - (x - 1000 - (x - 1000) / 2 * 2) = 2 * (x / 2) + 1 - x % 2 by omega]
        have i12' : inb (I (tw x)) 1211 = true := (I_inb (by omega) (by omega)).mpr ⟨by omega, by omega⟩
        have x12' : ix (I (tw x)) = (tw x).toNat := I_ix (by omega) (by omega)
        have htm : Dtm D ((tw x - 1000) / 2) = 2 := by
          rw [show (tw x - 1000) / 2 = (x - 1000) / 2 by rw [tw_e]; omega]; exact h2'
        have h29 := hJ.1 (tw x) (Or.inr (Or.inl htw)) (Or.inr (Or.inl ⟨by omega, Or.inl htm⟩))
        have e29 : (seti (seti g 35 x.toNat (I 1)) 35 (tw x).toNat (I 1)).1 29 (tw x).toNat = I (r (tw x)) := by rw [seti_r (by omega), seti_r (by omega), h4 29 (by omega)]; exact h29
        rw [h2', if_neg (show ¬ (I 2 = (1 : Int32)) by decide), e3, Option.bind_some, if_pos i12', x12', Option.bind_some, if_pos i12', show (seti (seti g 35 x.toNat (1 : Int32)) 35 (tw x).toNat (1 : Int32)).1 29 (tw x).toNat = I (r (tw x)) from e29, Option.bind_some, ← hi]
        refine ih (j + 1) M _ (by omega) (by omega) (Or.inr (Or.inl (by omega))) (Or.inr ?_) (by rw [seti2, seti2, h3]) (fun c hc => by rw [seti_r hc, seti_r hc, h4 c hc]) ?_
        · rw [hi]
          rintro ⟨_, _, w⟩
          rw [htm] at w
          exact absurd w (by decide)
        · rw [hi]
          refine mkm_iff (mkm_set h60.2 hset htw) (fun z _ _ => ?_)
          constructor
          · rintro ((((q | q) | q) | q) | q)
            · exact Or.inl (Or.inl q)
            · exact Or.inl (Or.inr (onl_suc.mpr (Or.inl q)))
            · exact Or.inl (Or.inr (onl_suc.mpr (Or.inr (Or.inl q))))
            · exact Or.inl (Or.inr (onl_suc.mpr (Or.inr (Or.inr (by rw [q, ex])))))
            · exact Or.inr q
          · rintro ((q | q) | q)
            · exact Or.inl (Or.inl (Or.inl (Or.inl q)))
            · rcases onl_suc.mp q with q | q | q
              · exact Or.inl (Or.inl (Or.inl (Or.inr q)))
              · exact Or.inl (Or.inl (Or.inr q))
              · exact Or.inl (Or.inr (by rw [q, ex]))
            · exact Or.inr q
      · -- a free end
        have hev : x % 2 = 0 := by
          by_cases q : x % 2 = 0
          · exact q
          · exfalso
            have e5 : 1000 + 2 * ((x - 1000) / 2) + 1 = x := by omega
            rw [e5, ex, (hph.1 _ dj).2.1] at hO
            have hb := h.2.2.2.2.1 _ hO
            rcases hs with w | w | w
            · cases j with
              | zero =>
                have : itr r tw 0 t = t := rfl
                omega
              | succ j =>
                have := (hph.2 _ (hw.1 j (by omega))).2.1
                have e6 : itr r tw (j + 1) t = tw (r (itr r tw j t)) := rfl
                rw [← e6] at this
                exact ou_n h hO this
            · obtain ⟨j', rfl⟩ : ∃ j', j = j' + 1 := ⟨j - 1, by omega⟩
              have := (hph.2 _ (hw.1 j' (by omega))).2.1
              have e6 : itr r tw (j' + 1) t = tw (r (itr r tw j' t)) := rfl
              rw [← e6] at this
              exact ou_n h hO this
            · rw [w] at rf; exact absurd rf (by decide)
        have etw : tw x = 1000 + 2 * ((x - 1000) / 2) + 1 := by rw [tw_e]; omega
        rw [← etw, ← hi] at hO h36
        have hk : k = j + 1 := by
          by_cases q : j + 1 < k
          · exact absurd (hw.1 (j + 1) q) (ou_n h hO)
          · omega
        have hy : r (itr r tw (j + 1) t) = y := by rw [← hk]; exact hw.2.2
        rw [hy] at hO h36
        have hb := h.2.2.2.2.1 _ hO
        rw [h1', if_pos (show I 1 = (1 : Int32) from rfl)]
        have ef : frf rl y = -2 - (pt y - 1720) := by
          unfold frf
          rw [if_neg (by omega), if_neg (by rw [rf]; decide)]
        rw [ef]
        refine ⟨seti g 35 x.toNat (I 1), ?_, by rw [seti2, h3], fun c hc => by rw [seti_r hc, h4 c hc], mkm_iff hset (fun z sz hz => ?_)⟩
        · unfold fk0
          show (if inb (I ((x - 1000) / 2)) 60 = true then some ((-2 : Int32) - (seti g 35 x.toNat (I 1)).1 36 (ix (I ((x - 1000) / 2))), seti g 35 x.toNat (I 1)) else none) = _
          rw [if_pos i60, x60, seti_r (by omega), h4 36 (by omega), h36, show (-2 : Int32) = I (-2) from rfl, I_sub]
        · constructor
          · rintro (((q | ⟨i, i1, i2⟩) | q) | q)
            · exact Or.inl q
            · exact Or.inr ⟨i, by omega, i2⟩
            · exact Or.inr ⟨j, by omega, Or.inl q⟩
            · exact Or.inr ⟨j, by omega, Or.inr (by rw [q, ex])⟩
          · rintro (q | ⟨i, i1, i2⟩)
            · exact Or.inl (Or.inl (Or.inl q))
            · by_cases e : i < j
              · exact Or.inl (Or.inl (Or.inr ⟨i, e, i2⟩))
              · by_cases e' : i = j
                · rw [e'] at i2
                  rcases i2 with i2 | i2
                  · exact Or.inl (Or.inr i2)
                  · exact Or.inr (by rw [i2, ex])
                · have e'' : i = j + 1 := by omega
                  rw [e''] at i2
                  rcases i2 with i2 | i2
                  · exfalso
                    rw [hi] at i2
                    rw [i2] at hz
                    rcases hz with w | w
                    · rw [show (tw x - 1000) / 2 = (x - 1000) / 2 by rw [tw_e]; omega, h1'] at w
                      exact absurd w (by decide)
                    · rw [etw] at w; omega
                  · exfalso
                    rw [i2, hy] at sz
                    exact ou_n h hO sz
theorem m_fol (h : ShtH B D Ou r) (hF : 10000 ≤ F) (hJ : MJ B D Ou r rl τ) {t y : Int} {k : Nat} (hk : k ≤ 60) (ht : Dmv B D Ou t) (hn : ¬ SNv D t) (hs : t < 1000 ∨ rl = true) (hw : Way r tw (SNv D) t k y) {M : Int → Prop} (hM : MkM D τ M) : ∃ g', f_X12_follow F (τ.1 29 t.toNat) τ = some (I (frf rl y), g') ∧ g'.2 = τ.2 ∧ (∀ c, c ≠ 35 → g'.1 c = τ.1 c) ∧ MkM D g' (fun z => M z ∨ OnP r tw t k z) := by
  have h29 := hJ.1 t ht (by
    rcases hs with q | q
    · exact Or.inl q
    · by_cases w : t < 1000
      · exact Or.inl w
      · rcases ht with u | u | u
        · unfold Agv at u; omega
        · exact absurd u hn
        · exact Or.inr (Or.inr ⟨(h.2.2.2.2.1 t u).1, q⟩))
  obtain ⟨g', a1, a2, a3, a4⟩ := m_fol_L (F := F) h hJ ht hn hw F 0 M τ (by omega) (by omega) (by
    rcases hs with q | q
    · exact Or.inl q
    · exact Or.inr (Or.inr q)) (Or.inr (fun q => hn q.1)) rfl (fun _ _ => rfl) (mkm_iff hM (fun z sz _ => by
    constructor
    · exact fun q => Or.inl (Or.inl q)
    · rintro ((q | ⟨i, i1, _⟩) | q)
      · exact q
      · omega
      · rw [q] at sz; exact absurd sz hn))
  refine ⟨g', ?_, a2, a3, a4⟩
  rw [h29]
  exact a1
end FOL
