/-! the reference stores a net -/
section STM
variable {B : BkT} {D : DrT} {Ou : Int → Prop} {r far sk : Int → Int} {rl : Bool} {σ τ : St} {F : Nat}
theorem m_sn205 (hF : 10000 ≤ F) (h : MH B D Ou r far sk rl τ) {M : Int → Prop} (hM : ∀ t z, Agv B D t → Pw D r far t z → M z) {a : Int} (a0 : 0 ≤ a) (a1 : a < Dna D) : ∀ (m : Nat) (p : Int) (g : St), 0 ≤ p → p ≤ Bpt B (Dak D a) → Bpt B (Dak D a) - p < m → g.2 = τ.2 → (∀ c, c ≠ 35 → c ≠ 38 → g.1 c = τ.1 c) → MkM D g M → (∀ j : Int, 0 ≤ j → g.1 38 j.toNat = if 5 * a ≤ j ∧ j < 5 * a + p then I (frf rl (far j)) else τ.1 38 j.toNat) → ∃ g', f_X12_readNet_L205 F (I a) m (I p) g = some g' ∧ g'.2 = τ.2 ∧ (∀ c, c ≠ 35 → c ≠ 38 → g'.1 c = τ.1 c) ∧ MkM D g' M ∧ (∀ j : Int, 0 ≤ j → g'.1 38 j.toNat = if 5 * a ≤ j ∧ j < 5 * a + Bpt B (Dak D a) then I (frf rl (far j)) else τ.1 38 j.toNat) := by
  have hS := h.1
  have k := hS.2.2.1 a a0 a1
  have pb := hS.1.2.2.1 _ k.1 k.2
  have na := hS.2.1
  have b16 := hS.1.2.1
  intro m
  induction m with
  | zero => intro p g h0 h1 h2; omega
  | succ m ih =>
    intro p g h0 h1 h2 g2 gc gm gw
    have hg : MH B D Ou r far sk rl g := mh_fr h (fun c q => gc c (by omega) (by omega)) (by rw [g2])
    have m27 := hg.2.2.2.2.2.2.2.1 a a0 a1
    have m18 := hg.2.2.2.2.1.2.2.1 _ k.1 k.2
    rw [f_X12_readNet_L205, if_pos ((I_inb (by omega) (by omega)).mpr ⟨by omega, by omega⟩ : inb (I a) 200 = true), show ix (I a) = a.toNat from I_ix (by omega) (by omega), m27, if_pos ((I_inb (by omega) (by omega)).mpr ⟨by omega, by omega⟩ : inb (I (Dak D a)) 16 = true), show ix (I (Dak D a)) = (Dak D a).toNat from I_ix (by omega) (by omega), m18]
    by_cases hp : p = Bpt B (Dak D a)
    · rw [if_neg (by rw [hp]; exact Int32.lt_irrefl)]
      exact ⟨g, rfl, g2, gc, gm, by rw [← hp]; exact gw⟩
    · have ap := agp (sk := sk) hS a0 a1 h0 (show p < Bpt B (Dak D a) by omega)
      obtain ⟨g1, b1, b2, b3⟩ := m_fol1 hF hg (Or.inl ap.1) (ag_n ap.1) (Or.inl (by omega)) gm
      have e5 : (5 : Int32) * I a + I p = I (5 * a + p) := by rw [show (5 : Int32) = I 5 from rfl, I_mul, I_add]
      rw [if_pos ((I_lt (by omega) (by omega) (by omega) (by omega)).mpr (by omega)), e5, if_pos ((I_inb (by omega) (by omega)).mpr ⟨by omega, by omega⟩ : inb (I (5 * a + p)) 1211 = true), show ix (I (5 * a + p)) = (5 * a + p).toNat from I_ix (by omega) (by omega), b1, Option.bind_some, if_pos ((I_inb (by omega) (by omega)).mpr ⟨by omega, by omega⟩ : inb (I (5 * a + p)) 1000 = true), Option.bind_some, show I p + (1 : Int32) = I (p + 1) by rw [show (1 : Int32) = I 1 from rfl, I_add]]
      refine ih (p + 1) _ (by omega) (by omega) (by omega) (by rw [seti2, b2.1, g2]) (fun c x y => by rw [seti_r y, b2.2 c x, gc c x y]) ?_ (fun j j0 => ?_)
      · have := mkm_sub b3 (hM _ · ap.1)
        intro v v0 v1
        rw [seti_r (by omega)]
        exact this v v0 v1
      · rw [seti1, b2.2 38 (by omega)]
        by_cases e : j = 5 * a + p
        · rw [if_pos ⟨rfl, by rw [e]⟩, if_pos (by omega), e]
        · rw [if_neg (by omega), gw j j0]
          by_cases e2 : 5 * a ≤ j ∧ j < 5 * a + p
          · rw [if_pos e2, if_pos (by omega)]
          · rw [if_neg e2, if_neg (by omega)]
theorem m_sn183 (hF : 10000 ≤ F) (h : MH B D Ou r far sk rl τ) {M : Int → Prop} (hM : ∀ t z, Agv B D t → Pw D r far t z → M z) : ∀ (m : Nat) (a : Int) (g : St), 0 ≤ a → a ≤ Dna D → Dna D - a < m → g.2 = τ.2 → (∀ c, c ≠ 35 → c ≠ 37 → c ≠ 38 → g.1 c = τ.1 c) → MkM D g M → (∀ i : Int, 0 ≤ i → i < a → g.1 37 i.toNat = I (Dak D i)) → (∀ t, Agv B D t → t < 5 * a → g.1 38 t.toNat = I (frf rl (far t))) → ∃ g', f_X12_readNet_L183 F m (I a) g = some g' ∧ g'.2 = τ.2 ∧ (∀ c, c ≠ 35 → c ≠ 37 → c ≠ 38 → g'.1 c = τ.1 c) ∧ MkM D g' M ∧ (∀ i : Int, 0 ≤ i → i < Dna D → g'.1 37 i.toNat = I (Dak D i)) ∧ (∀ t, Agv B D t → g'.1 38 t.toNat = I (frf rl (far t))) := by
  have hS := h.1
  have na := hS.2.1
  intro m
  induction m with
  | zero => intro a g h0 h1 h2; omega
  | succ m ih =>
    intro a g h0 h1 h2 g2 gc gm gk gw
    have hg : MH B D Ou r far sk rl g := mh_fr h (fun c q => gc c (by omega) (by omega) (by omega)) (by rw [g2])
    rw [f_X12_readNet_L183, hg.2.2.2.2.2.1]
    by_cases ha : a = Dna D
    · rw [if_neg (by rw [ha]; exact Int32.lt_irrefl)]
      exact ⟨g, rfl, g2, gc, gm, by rw [← ha]; exact gk, fun t q => gw t q (by have := q.2.2.1; omega)⟩
    · have k := hS.2.2.1 a h0 (by omega)
      have pb := hS.1.2.2.1 _ k.1 k.2
      have m27 := hg.2.2.2.2.2.2.2.1 a h0 (by omega)
      have i2 : inb (I a) 200 = true := (I_inb (by omega) (by omega)).mpr ⟨by omega, by omega⟩
      have x2 : ix (I a) = a.toNat := I_ix (by omega) (by omega)
      have hg1 : MH B D Ou r far sk rl (seti g 37 a.toNat (I (Dak D a))) := mh_fr hg (fun c q => seti_r (by omega)) rfl
      obtain ⟨g', b1, b2, b3, b4, b5⟩ := m_sn205 hF hg1 hM h0 (show a < Dna D by omega) F 0 _ (by omega) (by omega) (by omega) rfl (fun _ _ _ => rfl) (fun v v0 v1 => by rw [seti_r (by omega)]; exact gm v v0 v1) (fun j j0 => by rw [if_neg (by omega)])
      rw [if_pos ((I_lt (by omega) (by omega) (by omega) (by omega)).mpr (by omega)), if_pos i2, if_pos i2, x2, m27, Option.bind_some, show f_X12_readNet_L205 F (I a) F (0 : Int32) _ = _ from b1, Option.bind_some, show I a + (1 : Int32) = I (a + 1) by rw [show (1 : Int32) = I 1 from rfl, I_add]]
      refine ih (a + 1) g' (by omega) (by omega) (by omega) (by rw [b2]; exact g2) (fun c x y z => by rw [b3 c x z, seti_r y]; exact gc c x y z) b4 (fun i x y => ?_) (fun t q w => ?_)
      · rw [b3 37 (by omega) (by omega), seti1]
        by_cases e : i = a
        · rw [if_pos ⟨rfl, by rw [e]⟩, e]
        · rw [if_neg (by omega)]; exact gk i x (by omega)
      · rw [b5 t q.1]
        by_cases e : 5 * a ≤ t
        · have e1 : t / 5 = a := by omega
          have := q.2.2.2
          rw [e1] at this
          rw [if_pos (by omega)]
        · rw [if_neg (by omega), seti_r (by omega)]
          exact gw t q (by omega)
/-- from a free end -/
theorem m_folE (hF : 10000 ≤ F) (h : MH B D Ou r far sk false τ) {v : Int} (v0 : 0 ≤ v) (v1 : v < Dnn D) (t1 : Dtm D v = 1) (ho : Ou (slv (ne1 D v))) (hr : r (slv (ne1 D v)) = 1000 + 2 * v + 1) {M : Int → Prop} (hM : MkM D τ M) : ∃ g, f_X12_follow F (τ.1 29 (1000 + 2 * v).toNat) (seti τ 35 (1000 + 2 * v).toNat (I 1)) = some (I (frf false (far (slv (ne1 D v)))), g) ∧ Fr35 τ g ∧ MkM D g (fun z => M z ∨ Pw D r far (slv (ne1 D v)) z) := by
  obtain ⟨h1, h2, h3, h4, h5⟩ := h
  have h60 := h1.2.2.2.1
  have hb := h1.2.2.2.2.1 _ ho
  have td : Dmv B D Ou (slv (ne1 D v)) := Or.inr (Or.inr ho)
  have tn := ou_n h1 ho
  obtain ⟨⟨k, k1, hw⟩, f1, f2, f3, f4⟩ := h3 _ td tn
  have sv : SNv D (1000 + 2 * v) := by unfold SNv; omega
  have sv' : SNv D (1000 + 2 * v + 1) := by unfold SNv; omega
  have et' : tw (1000 + 2 * v + 1) = 1000 + 2 * v := by rw [tw_e]; omega
  have i1 : itr r tw 1 (slv (ne1 D v)) = 1000 + 2 * v := by
    show tw (r (slv (ne1 D v))) = _
    rw [hr, et']
  have k1' : 1 ≤ k := by
    by_cases q : k = 0
    · exfalso
      have := hw.2.2
      rw [q] at this
      have e : r (slv (ne1 D v)) = far (slv (ne1 D v)) := this
      rw [hr] at e
      rw [← e] at f2
      exact f2 sv'
    · omega
  have hJ' : MJ B D Ou r false (seti τ 35 (1000 + 2 * v).toNat (I 1)) := mj_fr h4 (fun c q => seti_r (by omega))
  have h29 := h4.1 (1000 + 2 * v) (Or.inr (Or.inl sv)) (Or.inr (Or.inl ⟨by omega, Or.inr (by omega)⟩))
  obtain ⟨g', a1, a2, a3, a4⟩ := m_fol_L (F := F) h1 hJ' td tn hw F 1 M (seti τ 35 (1000 + 2 * v).toNat (I 1)) k1' (by omega) (Or.inr (Or.inl (by omega))) (Or.inr (fun q => by rw [i1] at q; omega)) rfl (fun _ _ => rfl) (mkm_iff (mkm_set h60.2 hM sv) (fun z sz hz => by
    rw [i1]
    constructor
    · rintro (q | q)
      · exact Or.inl (Or.inl q)
      · exact Or.inr q
    · rintro ((q | ⟨i, i2, i3⟩) | q)
      · exact Or.inl q
      · exfalso
        have i0 : i = 0 := by omega
        rw [i0] at i3
        rcases i3 with w | w
        · have : z = slv (ne1 D v) := w
          rw [this] at sz
          exact tn sz
        · have : z = r (slv (ne1 D v)) := w
          rw [hr] at this
          rw [this, show (1000 + 2 * v + 1 - 1000) / 2 = v by omega, t1] at hz
          omega
      · exact Or.inr q))
  rw [i1] at a1
  refine ⟨g', ?_, ⟨by rw [a2]; rfl, fun c q => by rw [a3 c q, seti_r q]⟩, mkm_iff a4 (fun z _ _ => ?_)⟩
  · rw [h29]
    exact a1
  · constructor
    · rintro (q | q)
      · exact Or.inl q
      · exact Or.inr ⟨k, hw, q⟩
    · rintro (q | ⟨k', hw', q⟩)
      · exact Or.inl q
      · rw [(way_uniq hw' hw).1] at q; exact Or.inr q
theorem m_sn258 (hF : 10000 ≤ F) (h : MH B D Ou r far sk false τ) (hE : ne1 D (Dnn D) ≤ 8) (e36 : ∀ i, 0 ≤ i → i < Dnn D → τ.1 36 i.toNat = I (ne1 D i)) (hO : ∀ m, 0 ≤ m → m < Dnn D → Dtm D m = 1 → Ou (slv (ne1 D m)) ∧ r (slv (ne1 D m)) = 1000 + 2 * m + 1) : ∀ (m : Nat) (v : Int) (M : Int → Prop) (g : St), 0 ≤ v → v ≤ Dnn D → Dnn D - v < m → g.2 = τ.2 → (∀ c, c ≠ 35 → c ≠ 39 → g.1 c = τ.1 c) → MkM D g M → (∀ i, 0 ≤ i → i < v → Dtm D i = 1 → g.1 39 (ne1 D i).toNat = I (frf false (far (slv (ne1 D i))))) → ∃ g', f_X12_readNet_L258 F m (I v) g = some g' ∧ g'.2 = τ.2 ∧ (∀ c, c ≠ 35 → c ≠ 39 → g'.1 c = τ.1 c) ∧ MkM D g' (fun z => M z ∨ ∃ i, (v ≤ i ∧ i < Dnn D ∧ Dtm D i = 1) ∧ Pw D r far (slv (ne1 D i)) z) ∧ (∀ i, 0 ≤ i → i < Dnn D → Dtm D i = 1 → g'.1 39 (ne1 D i).toNat = I (frf false (far (slv (ne1 D i))))) := by
  have hS := h.1
  have h60 := hS.2.2.2.1
  intro m
  induction m with
  | zero => intro v M g h0 h1 h2; omega
  | succ m ih =>
    intro v M g h0 h1 h2 g2 gc gm gw
    have hg : MH B D Ou r far sk false g := mh_fr h (fun c q => gc c (by omega) (by omega)) (by rw [g2])
    rw [f_X12_readNet_L258, hg.2.2.2.2.2.2.1]
    by_cases hv : v = Dnn D
    · rw [if_neg (by rw [hv]; exact Int32.lt_irrefl)]
      refine ⟨g, rfl, g2, gc, mkm_iff gm (fun z _ _ => ⟨Or.inl, fun q => ?_⟩), by rw [← hv]; exact gw⟩
      rcases q with q | ⟨i, q, _⟩
      · exact q
      · omega
    · have i6 : inb (I v) 60 = true := (I_inb (by omega) (by omega)).mpr ⟨by omega, by omega⟩
      have x6 : ix (I v) = v.toNat := I_ix (by omega) (by omega)
      have m31 := hg.2.2.2.1.2.1 v h0 (by omega)
      have ev : I v + (1 : Int32) = I (v + 1) := by rw [show (1 : Int32) = I 1 from rfl, I_add]
      rw [if_pos ((I_lt (by omega) (by omega) (by omega) (by omega)).mpr (by omega)), if_pos i6, x6, m31.1, ev]
      by_cases ht : Dtm D v = 1
      · have ho := hO v h0 (by omega) ht
        have nb := ne1_b (D := D) h0
        have nl := ne1_lt (D := D) h0 (show v < Dnn D by omega) ht
        obtain ⟨g1, b1, b2, b3⟩ := m_folE hF hg h0 (show v < Dnn D by omega) ht ho.1 ho.2 gm
        have e10 : (1000 : Int32) + (2 : Int32) * I v = I (1000 + 2 * v) := by rw [show (1000 : Int32) = I 1000 from rfl, show (2 : Int32) = I 2 from rfl, I_mul, I_add]
        have i12 : inb (I (1000 + 2 * v)) 1211 = true := (I_inb (by omega) (by omega)).mpr ⟨by omega, by omega⟩
        have x12 : ix (I (1000 + 2 * v)) = (1000 + 2 * v).toNat := I_ix (by omega) (by omega)
        have s29 : (seti g 35 (1000 + 2 * v).toNat (1 : Int32)).1 29 (1000 + 2 * v).toNat = g.1 29 (1000 + 2 * v).toNat := by rw [seti_r (by omega)]
        have s36 : (seti g 35 (1000 + 2 * v).toNat (1 : Int32)).1 36 v.toNat = I (ne1 D v) := by rw [seti_r (by omega), gc 36 (by omega) (by omega)]; exact e36 v h0 (by omega)
        have i8 : inb (I (ne1 D v)) 8 = true := (I_inb (by omega) (by omega)).mpr ⟨by omega, by omega⟩
        have x8 : ix (I (ne1 D v)) = (ne1 D v).toNat := I_ix (by omega) (by omega)
        rw [if_pos (show I (Dtm D v) = (1 : Int32) by rw [ht]; rfl), e10, if_pos i12, x12, Option.bind_some, if_pos i6, if_pos i12, s29, show f_X12_follow F (g.1 29 (1000 + 2 * v).toNat) (seti g 35 (1000 + 2 * v).toNat (1 : Int32)) = _ from b1, Option.bind_some, s36, if_pos i8, x8, Option.bind_some, Option.bind_some]
        obtain ⟨g', c1, c2, c3, c4, c5⟩ := ih (v + 1) _ (seti g1 39 (ne1 D v).toNat (I (frf false (far (slv (ne1 D v)))))) (by omega) (by omega) (by omega) (by rw [seti2, b2.1, g2]) (fun c x y => by rw [seti_r y, b2.2 c x, gc c x y]) (fun z v0 v1 => by
          rw [seti_r (by omega)]
          exact b3 z v0 v1) (fun i x y z => by
          rw [seti1]
          by_cases w : i = v
          · rw [if_pos ⟨rfl, by rw [w]⟩, w]
          · have ib := ne1_b (D := D) x
            have il := ne1_lt (D := D) x (show i < v by omega) z
            rw [if_neg (by omega), b2.2 39 (by omega)]; exact gw i x (by omega) z)
        refine ⟨g', c1, c2, c3, mkm_iff c4 (fun z _ _ => ?_), c5⟩
        constructor
        · rintro ((q | q) | ⟨j, q, w⟩)
          · exact Or.inl q
          · exact Or.inr ⟨v, ⟨by omega, by omega, ht⟩, q⟩
          · exact Or.inr ⟨j, ⟨by omega, q.2⟩, w⟩
        · rintro (q | ⟨j, q, w⟩)
          · exact Or.inl (Or.inl q)
          · by_cases x : j = v
            · rw [x] at w; exact Or.inl (Or.inr w)
            · exact Or.inr ⟨j, ⟨by omega, q.2⟩, w⟩
      · have t2 : Dtm D v = 2 := by
          rcases m31.2 with q | q
          · exact q
          · exact absurd q.1 ht
        rw [if_neg (show ¬ (I (Dtm D v) = (1 : Int32)) by rw [t2]; decide), Option.bind_some]
        obtain ⟨g', c1, c2, c3, c4, c5⟩ := ih (v + 1) M g (by omega) (by omega) (by omega) g2 gc gm (fun i x y z => by
          by_cases w : i = v
          · rw [w] at z; exact absurd z ht
          · exact gw i x (by omega) z)
        refine ⟨g', c1, c2, c3, mkm_iff c4 (fun z _ _ => ?_), c5⟩
        constructor
        · rintro (q | ⟨j, q, w⟩)
          · exact Or.inl q
          · exact Or.inr ⟨j, ⟨by omega, q.2⟩, w⟩
        · rintro (q | ⟨j, q, w⟩)
          · exact Or.inl q
          · by_cases x : j = v
            · rw [x] at q; exact absurd q.2.2 ht
            · exact Or.inr ⟨j, ⟨by omega, q.2⟩, w⟩
end STM
