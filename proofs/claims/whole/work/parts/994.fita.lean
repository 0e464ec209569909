def Fr7 (σ g : St) : Prop := g.2 = σ.2 ∧ ∀ c, c ≠ 7 → g.1 c = σ.1 c
def Fr35 (τ g : St) : Prop := g.2 = τ.2 ∧ ∀ c, c ≠ 35 → g.1 c = τ.1 c
theorem fr7_tr {a b c : St} (h : Fr7 a b) (h' : Fr7 b c) : Fr7 a c := ⟨by rw [h'.1, h.1], fun x q => by rw [h'.2 x q, h.2 x q]⟩
theorem fr35_tr {a b c : St} (h : Fr35 a b) (h' : Fr35 b c) : Fr35 a c := ⟨by rw [h'.1, h.1], fun x q => by rw [h'.2 x q, h.2 x q]⟩
def Alf (B : BkT) (D : DrT) (sk : Int → Int) (rl : Bool) (far : Int → Int) (P : Int → Prop) : Prop := ∀ t, P t → fitt B D sk rl t (far t) = true
def CH (B : BkT) (D : DrT) (Ou : Int → Prop) (r far sk : Int → Int) (rl : Bool) (σ : St) : Prop := ShtH B D Ou r ∧ OuRl B sk rl Ou ∧ FarH B D Ou r far ∧ CJ B D Ou r σ ∧ CFs B D sk rl σ
def MH (B : BkT) (D : DrT) (Ou : Int → Prop) (r far sk : Int → Int) (rl : Bool) (τ : St) : Prop := ShtH B D Ou r ∧ OuRl B sk rl Ou ∧ FarH B D Ou r far ∧ MJ B D Ou r rl τ ∧ MFs B D sk rl τ
section FTA
variable {B : BkT} {D : DrT} {Ou : Int → Prop} {r far sk : Int → Int} {rl : Bool} {σ τ : St} {F : Nat}
theorem ch_fr {g : St} (h : CH B D Ou r far sk rl σ) (e : ∀ c, c = 1 ∨ c = 2 ∨ c = 3 ∨ c = 4 ∨ c = 8 ∨ (15 ≤ c ∧ c ≤ 18) → g.1 c = σ.1 c) (e2 : g.2 16 = σ.2 16) : CH B D Ou r far sk rl g := by
  obtain ⟨h1, h2, h3, h4, h5⟩ := h
  refine ⟨h1, h2, h3, ?_, cf_fr h5 (fun c q => e c (by omega)) e2⟩
  unfold CJ
  rw [e 3 (by omega)]
  exact h4
theorem ch7 {g : St} (h : CH B D Ou r far sk rl σ) (f : Fr7 σ g) : CH B D Ou r far sk rl g := ch_fr h (fun c q => f.2 c (by omega)) (by rw [f.1])
theorem mh_fr {g : St} (h : MH B D Ou r far sk rl τ) (e : ∀ c, c = 0 ∨ (18 ≤ c ∧ c ≤ 20) ∨ c = 27 ∨ c = 29 ∨ c = 31 ∨ c = 32 ∨ c = 36 → g.1 c = τ.1 c) (e2 : g.2 17 = τ.2 17) : MH B D Ou r far sk rl g := by
  obtain ⟨h1, h2, h3, h4, h5⟩ := h
  exact ⟨h1, h2, h3, mj_fr h4 (fun c q => e c (by omega)), mf_fr h5 (fun c q => e c (by omega)) e2⟩
theorem mh35 {g : St} (h : MH B D Ou r far sk rl τ) (f : Fr35 τ g) : MH B D Ou r far sk rl g := mh_fr h (fun c q => f.2 c (by omega)) (by rw [f.1])
/-- one way of the class -/
theorem c_far1 (hF : 10000 ≤ F) (h : CH B D Ou r far sk rl σ) {t : Int} (ht : Dmv B D Ou t) (hn : ¬ SNv D t) {M : Int → Prop} (hM : MkC D σ M) : ∃ g, f_X1_farCode F (I (pt t)) σ = some (I (fcd (far t)), g) ∧ Fr7 σ g ∧ MkC D g (fun z => M z ∨ Pw D r far t z) := by
  obtain ⟨h1, h2, h3, h4, h5⟩ := h
  obtain ⟨⟨k, k1, hw⟩, f1, f2, f3, f4⟩ := h3 t ht hn
  obtain ⟨g', a1, a2, a3, a4⟩ := c_far h1 hF h4 ht hn k1 hw hM
  refine ⟨g', a1, ⟨a2, a3⟩, mkc_iff a4 (fun v _ _ => ?_)⟩
  have e : ∀ z, (M z ∨ OnP r tw t k z) ↔ (M z ∨ Pw D r far t z) := fun z => by
    constructor
    · rintro (q | q)
      · exact Or.inl q
      · exact Or.inr ⟨k, hw, q⟩
    · rintro (q | ⟨k', hw', q⟩)
      · exact Or.inl q
      · rw [(way_uniq hw' hw).1] at q; exact Or.inr q
  unfold NmM
  exact or_congr (e _) (e _)
theorem m_fol1 (hF : 10000 ≤ F) (h : MH B D Ou r far sk rl τ) {t : Int} (ht : Dmv B D Ou t) (hn : ¬ SNv D t) (hs : t < 1000 ∨ rl = true) {M : Int → Prop} (hM : MkM D τ M) : ∃ g, f_X12_follow F (τ.1 29 t.toNat) τ = some (I (frf rl (far t)), g) ∧ Fr35 τ g ∧ MkM D g (fun z => M z ∨ Pw D r far t z) := by
  obtain ⟨h1, h2, h3, h4, h5⟩ := h
  obtain ⟨⟨k, k1, hw⟩, f1, f2, f3, f4⟩ := h3 t ht hn
  obtain ⟨g', a1, a2, a3, a4⟩ := m_fol h1 hF h4 k1 ht hn hs hw hM
  refine ⟨g', a1, ⟨a2, a3⟩, mkm_iff a4 (fun z _ _ => ?_)⟩
  constructor
  · rintro (q | q)
    · exact Or.inl q
    · exact Or.inr ⟨k, hw, q⟩
  · rintro (q | ⟨k', hw', q⟩)
    · exact Or.inl q
    · rw [(way_uniq hw' hw).1] at q; exact Or.inr q
theorem agp (h : ShtH B D Ou r) {a p : Int} (a0 : 0 ≤ a) (a1 : a < Dna D) (p0 : 0 ≤ p) (p1 : p < Bpt B (Dak D a)) : Agv B D (5 * a + p) ∧ p < 5 ∧ pt (5 * a + p) = 8 * a + p ∧ svt B D sk (5 * a + p) = Bso B (5 * Dak D a + p) := by
  have k := h.2.2.1 a a0 a1
  have pb := h.1.2.2.1 _ k.1 k.2
  have na := h.2.1
  have e1 : (5 * a + p) / 5 = a := by omega
  have e2 : (5 * a + p) % 5 = p := by omega
  refine ⟨⟨by omega, by omega, by rw [e1]; exact a1, by rw [e1, e2]; exact p1⟩, by omega, ?_, ?_⟩
  · unfold pt
    rw [if_pos (by omega), e1, e2]
  · unfold svt
    rw [if_pos (by omega), e1, e2]
theorem c_ag34 (hF : 10000 ≤ F) (h : CH B D Ou r far sk rl σ) {a : Int} (a0 : 0 ≤ a) (a1 : a < Dna D) (k0 : St → Option (Int32 × St)) : ∀ (m : Nat) (p : Int) (M : Int → Prop) (g : St), 0 ≤ p → p ≤ Bpt B (Dak D a) → Bpt B (Dak D a) - p < m → Fr7 σ g → MkC D g M → ∃ g', Fr7 σ g' ∧ ((Alf B D sk rl far (fun t => 5 * a + p ≤ t ∧ t < 5 * a + Bpt B (Dak D a)) ∧ f_X6_agentsFit_L34 F (I a) (I (Bpt B (Dak D a))) k0 m (I p) g = k0 g' ∧ MkC D g' (fun z => M z ∨ ∃ t, (5 * a + p ≤ t ∧ t < 5 * a + Bpt B (Dak D a)) ∧ Pw D r far t z)) ∨ (¬ Alf B D sk rl far (fun t => 5 * a + p ≤ t ∧ t < 5 * a + Bpt B (Dak D a)) ∧ f_X6_agentsFit_L34 F (I a) (I (Bpt B (Dak D a))) k0 m (I p) g = some (I 0, g'))) := by
  have hS := h.1
  have k := hS.2.2.1 a a0 a1
  have pb := hS.1.2.2.1 _ k.1 k.2
  have na := hS.2.1
  intro m
  induction m with
  | zero => intro p M g h0 h1 h2; omega
  | succ m ih =>
    intro p M g h0 h1 h2 h3 h4
    rw [f_X6_agentsFit_L34]
    by_cases hp : p = Bpt B (Dak D a)
    · rw [if_neg (by rw [hp]; exact Int32.lt_irrefl)]
      refine ⟨g, h3, Or.inl ⟨fun t q => by omega, rfl, mkc_iff h4 (fun v _ _ => ?_)⟩⟩
      unfold NmM
      constructor
      · rintro (q | q)
        · exact Or.inl (Or.inl q)
        · exact Or.inr (Or.inl q)
      · rintro ((q | ⟨t, q, _⟩) | (q | ⟨t, q, _⟩))
        · exact Or.inl q
        · omega
        · exact Or.inr q
        · omega
    · have hg := ch7 h h3
      have ap := agp (sk := sk) hS a0 a1 h0 (show p < Bpt B (Dak D a) by omega)
      have td : Dmv B D Ou (5 * a + p) := Or.inl ap.1
      have tn := ag_n ap.1
      obtain ⟨g1, b1, b2, b3⟩ := c_far1 hF hg td tn h4
      have hg1 := ch7 hg b2
      have fd := h.2.2.1 _ td tn
      have cf := c_fits hg1.1 hg1.2.1 hg1.2.2.2.2 td tn (Or.inl (by omega)) fd.2.1 fd.2.2.1
      have epc : f_X11_portCode (I a) (I p) = I (pt (5 * a + p)) := by
        unfold f_X11_portCode
        rw [show (8 : Int32) = I 8 from rfl, I_mul, I_add, ap.2.2.1]
      rw [if_pos ((I_lt (by omega) (by omega) (by omega) (by omega)).mpr (by omega)), c_kindOfD hS hg.2.2.2.2 a0 a1, Option.bind_some, c_sortOf hS.1 hg.2.2.2.2.1 k.1 k.2 h0 (by omega), Option.bind_some, epc, Option.bind_some, b1, Option.bind_some, ← ap.2.2.2, cf, Option.bind_some]
      by_cases hf : fitt B D sk rl (5 * a + p) (far (5 * a + p)) = true
      · rw [if_pos hf, if_neg (show ¬ (I 1 = (0 : Int32)) by decide), show I p + (1 : Int32) = I (p + 1) by rw [show (1 : Int32) = I 1 from rfl, I_add]]
        obtain ⟨g', c1, c2⟩ := ih (p + 1) _ g1 (by omega) (by omega) (by omega) (fr7_tr h3 b2) b3
        refine ⟨g', c1, ?_⟩
        rcases c2 with ⟨d1, d2, d3⟩ | ⟨d1, d2⟩
        · refine Or.inl ⟨fun t q => ?_, d2, mkc_iff d3 (fun v _ _ => ?_)⟩
          · by_cases e : t = 5 * a + p
            · rw [e]; exact hf
            · exact d1 t (by omega)
          · have e : ∀ z, ((M z ∨ Pw D r far (5 * a + p) z) ∨ ∃ t, (5 * a + (p + 1) ≤ t ∧ t < 5 * a + Bpt B (Dak D a)) ∧ Pw D r far t z) ↔ (M z ∨ ∃ t, (5 * a + p ≤ t ∧ t < 5 * a + Bpt B (Dak D a)) ∧ Pw D r far t z) := fun z => by
              constructor
              · rintro ((q | q) | ⟨t, q, w⟩)
                · exact Or.inl q
                · exact Or.inr ⟨5 * a + p, by omega, q⟩
                · exact Or.inr ⟨t, by omega, w⟩
              · rintro (q | ⟨t, q, w⟩)
                · exact Or.inl (Or.inl q)
                · by_cases e : t = 5 * a + p
                  · rw [e] at w; exact Or.inl (Or.inr w)
                  · exact Or.inr ⟨t, by omega, w⟩
            unfold NmM
            exact or_congr (e _) (e _)
        · exact Or.inr ⟨fun q => d1 (fun t w => q t ⟨by have := w.1; omega, w.2⟩), d2⟩
      · rw [if_neg hf, if_pos (show I 0 = (0 : Int32) from rfl)]
        exact ⟨g1, fr7_tr h3 b2, Or.inr ⟨fun q => hf (q _ (by omega)), rfl⟩⟩
theorem c_ag2 (hF : 10000 ≤ F) (h : CH B D Ou r far sk rl σ) : ∀ (m : Nat) (a : Int) (M : Int → Prop) (g : St), 0 ≤ a → a ≤ Dna D → Dna D - a < m → Fr7 σ g → MkC D g M → ∃ g', Fr7 σ g' ∧ ((Alf B D sk rl far (fun t => Agv B D t ∧ 5 * a ≤ t) ∧ f_X6_agentsFit_L2 F m (I a) g = some (I 1, g') ∧ MkC D g' (fun z => M z ∨ ∃ t, (Agv B D t ∧ 5 * a ≤ t) ∧ Pw D r far t z)) ∨ (¬ Alf B D sk rl far (fun t => Agv B D t ∧ 5 * a ≤ t) ∧ f_X6_agentsFit_L2 F m (I a) g = some (I 0, g'))) := by
  have hS := h.1
  have na := hS.2.1
  intro m
  induction m with
  | zero => intro a M g h0 h1 h2; omega
  | succ m ih =>
    intro a M g h0 h1 h2 h3 h4
    have hg := ch7 h h3
    rw [f_X6_agentsFit_L2, hg.2.2.2.2.2.1]
    by_cases ha : a = Dna D
    · rw [if_neg (by rw [ha]; exact Int32.lt_irrefl)]
      have hno : ∀ t, ¬ (Agv B D t ∧ 5 * a ≤ t) := fun t q => by
        have := q.1.2.2.1
        omega
      refine ⟨g, h3, Or.inl ⟨fun t q => absurd q (hno t), rfl, mkc_iff h4 (fun v _ _ => ?_)⟩⟩
      unfold NmM
      constructor
      · rintro (q | q)
        · exact Or.inl (Or.inl q)
        · exact Or.inr (Or.inl q)
      · rintro ((q | ⟨t, q, _⟩) | (q | ⟨t, q, _⟩))
        · exact Or.inl q
        · exact absurd q (hno t)
        · exact Or.inr q
        · exact absurd q (hno t)
    · have k := hS.2.2.1 a h0 (by omega)
      have pb := hS.1.2.2.1 _ k.1 k.2
      rw [if_pos ((I_lt (by omega) (by omega) (by omega) (by omega)).mpr (by omega)), c_kindOfD hS hg.2.2.2.2 h0 (by omega), Option.bind_some, c_ports hS.1 hg.2.2.2.2.1 k.1 k.2, Option.bind_some]
      obtain ⟨g1, b1, b2⟩ := c_ag34 hF h h0 (show a < Dna D by omega) (fun t13 => f_X6_agentsFit_L2 F m (I a + (1 : Int32)) t13) F 0 M g (by omega) (by omega) (by omega) h3 h4
      have hag : ∀ t, (Agv B D t ∧ 5 * a ≤ t) ↔ (5 * a + 0 ≤ t ∧ t < 5 * a + Bpt B (Dak D a)) ∨ (Agv B D t ∧ 5 * (a + 1) ≤ t) := fun t => by
        constructor
        · rintro ⟨q, w⟩
          by_cases e : 5 * (a + 1) ≤ t
          · exact Or.inr ⟨q, e⟩
          · have e1 : t / 5 = a := by omega
            have := q.2.2.2
            rw [e1] at this
            exact Or.inl (by omega)
        · rintro (q | q)
          · have e1 : t / 5 = a := by omega
            exact ⟨⟨by omega, by omega, by omega, by rw [e1]; omega⟩, by omega⟩
          · exact ⟨q.1, by omega⟩
      rcases b2 with ⟨d1, d2, d3⟩ | ⟨d1, d2⟩
      · obtain ⟨g2, e1, e2⟩ := ih (a + 1) _ g1 (by omega) (by omega) (by omega) b1 d3
        have ea : I a + (1 : Int32) = I (a + 1) := by rw [show (1 : Int32) = I 1 from rfl, I_add]
        refine ⟨g2, e1, ?_⟩
        rcases e2 with ⟨u1, u2, u3⟩ | ⟨u1, u2⟩
        · refine Or.inl ⟨fun t q => ?_, ?_, mkc_iff u3 (fun v _ _ => ?_)⟩
          · rcases (hag t).mp q with w | w
            · exact d1 t w
            · exact u1 t w
          · rw [show (0 : Int32) = I 0 from rfl, d2, ea]; exact u2
          · have e : ∀ z, ((M z ∨ ∃ t, (5 * a + 0 ≤ t ∧ t < 5 * a + Bpt B (Dak D a)) ∧ Pw D r far t z) ∨ ∃ t, (Agv B D t ∧ 5 * (a + 1) ≤ t) ∧ Pw D r far t z) ↔ (M z ∨ ∃ t, (Agv B D t ∧ 5 * a ≤ t) ∧ Pw D r far t z) := fun z => by
              constructor
              · rintro ((q | ⟨t, q, w⟩) | ⟨t, q, w⟩)
                · exact Or.inl q
                · exact Or.inr ⟨t, (hag t).mpr (Or.inl q), w⟩
                · exact Or.inr ⟨t, (hag t).mpr (Or.inr q), w⟩
              · rintro (q | ⟨t, q, w⟩)
                · exact Or.inl (Or.inl q)
                · rcases (hag t).mp q with x | x
                  · exact Or.inl (Or.inr ⟨t, x, w⟩)
                  · exact Or.inr ⟨t, x, w⟩
            unfold NmM
            exact or_congr (e _) (e _)
        · refine Or.inr ⟨fun q => u1 (fun t w => q t ((hag t).mpr (Or.inr w))), ?_⟩
          rw [show (0 : Int32) = I 0 from rfl, d2, ea]; exact u2
      · exact ⟨g1, b1, Or.inr ⟨fun q => d1 (fun t w => q t ((hag t).mpr (Or.inl w))), d2⟩⟩
theorem c_agents (hF : 10000 ≤ F) (h : CH B D Ou r far sk rl σ) {M : Int → Prop} (hM : MkC D σ M) : ∃ g', Fr7 σ g' ∧ ((Alf B D sk rl far (Agv B D) ∧ f_X6_agentsFit F σ = some (I 1, g') ∧ MkC D g' (fun z => M z ∨ ∃ t, Agv B D t ∧ Pw D r far t z)) ∨ (¬ Alf B D sk rl far (Agv B D) ∧ f_X6_agentsFit F σ = some (I 0, g'))) := by
  have na := h.1.2.1
  obtain ⟨g', a1, a2⟩ := c_ag2 hF h F 0 M σ (by omega) (by omega) (by omega) ⟨rfl, fun _ _ => rfl⟩ hM
  refine ⟨g', a1, ?_⟩
  have e0 : ∀ t, (Agv B D t ∧ 5 * 0 ≤ t) ↔ Agv B D t := fun t => ⟨fun q => q.1, fun q => ⟨q, by have := q.1; omega⟩⟩
  rcases a2 with ⟨b1, b2, b3⟩ | ⟨b1, b2⟩
  · refine Or.inl ⟨fun t q => b1 t ((e0 t).mpr q), b2, mkc_iff b3 (fun v _ _ => ?_)⟩
    have e : ∀ z, (M z ∨ ∃ t, (Agv B D t ∧ 5 * 0 ≤ t) ∧ Pw D r far t z) ↔ (M z ∨ ∃ t, Agv B D t ∧ Pw D r far t z) := fun z => by
      constructor
      · rintro (q | ⟨t, q, w⟩)
        · exact Or.inl q
        · exact Or.inr ⟨t, q.1, w⟩
      · rintro (q | ⟨t, q, w⟩)
        · exact Or.inl q
        · exact Or.inr ⟨t, (e0 t).mpr q, w⟩
    unfold NmM
    exact or_congr (e _) (e _)
  · exact Or.inr ⟨fun q => b1 (fun t w => q t w.1), b2⟩
/-! the slots of a rule -/
def slv (v : Int) : Int := 1200 + 5 * (v / 4) + v % 4 + 1
theorem slv_b {v : Int} (v0 : 0 ≤ v) (v1 : v < 8) : 1200 ≤ slv v ∧ slv v < 1210 ∧ (slv v - 1200) / 5 = v / 4 ∧ (slv v - 1200) % 5 = v % 4 + 1 ∧ pt (slv v) = 1720 + v := by
  unfold pt slv
  rw [if_neg (by omega), if_neg (by omega)]
  omega
theorem c_hasSlot (h : CH B D Ou r far sk rl σ) (rt : rl = true) {v : Int} (v0 : 0 ≤ v) (v1 : v < 8) : (Ou (slv v) → f_X6_hasSlot (I v) σ = some (I 1)) ∧ (¬ Ou (slv v) → f_X6_hasSlot (I v) σ = some (I 0)) := by
  have sb := slv_b v0 v1
  have hO := h.2.1 rt
  have hs := hO.1 (v / 4) (by omega) (by omega)
  have h8 := h.2.2.2.2.2.2.2.2.2 rt (v / 4) (by omega) (by omega)
  have hp := c_ports h.1.1 h.2.2.2.2.1 hs.1 hs.2
  have pb := h.1.1.2.2.1 _ hs.1 hs.2
  have hou : Ou (slv v) ↔ v % 4 + 1 < Bpt B (sk (v / 4)) := by
    rw [hO.2, sb.2.2.1, sb.2.2.2.1]
    constructor
    · exact fun q => q.2.2.2
    · exact fun q => ⟨sb.1, sb.2.1, by omega, q⟩
  have key : f_X6_hasSlot (I v) σ = some (I (if v % 4 + 1 < Bpt B (sk (v / 4)) then 1 else 0)) := by
    unfold f_X6_hasSlot f_X6_slotKind f_X6_slotPort f_X3_hasPort
    have fin : ∀ q : Int, 0 ≤ q → q < 4 → q = v % 4 → (Option.bind (if (0 : Int32) ≤ I (q + 1) then (Option.bind (f_X3_portsOf 15 (I (sk (v / 4))) σ) fun x2 => if I (q + 1) < x2 then some (1 : Int32) else some (0 : Int32)) else some (0 : Int32)) fun x3 => if x3 = 0 ∨ x3 = 1 then some x3 else none) = some (I (if v % 4 + 1 < Bpt B (sk (v / 4)) then 1 else 0)) := by
      intro q q0 q4 eq
      rw [if_pos ((Ile' (0) (0) (by omega) (by omega) (by omega) (by omega)).mpr (by omega)), hp, Option.bind_some, ← eq]
      by_cases w : q + 1 < Bpt B (sk (v / 4))
      · rw [if_pos ((I_lt (by omega) (by omega) (by omega) (by omega)).mpr w), if_pos w]; rfl
      · rw [if_neg (fun x => w ((I_lt (by omega) (by omega) (by omega) (by omega)).mp x)), if_neg w]; rfl
    by_cases e : v < 4
    · have c4 : I v < (4 : Int32) := (Ilt (4) (4) (by omega) (by omega) (by omega) (by omega)).mpr e
      rw [show v / 4 = 0 by omega] at h8
      have h8' : σ.1 8 0 = I (sk 0) := h8
      have f := fin v v0 (by omega) (by omega)
      rw [show v / 4 = 0 by omega] at f ⊢
      rw [if_pos c4, Option.bind_some, if_pos (show inb (0 : Int32) 2 = true by decide), show ix (0 : Int32) = 0 by decide, h8', Option.bind_some, if_pos c4, Option.bind_some, show I v + (1 : Int32) = I (v + 1) by rw [show (1 : Int32) = I 1 from rfl, I_add]]
      exact f
    · have c4 : ¬ (I v < (4 : Int32)) := fun q => e ((Ilt (4) (4) (by omega) (by omega) (by omega) (by omega)).mp q)
      rw [show v / 4 = 1 by omega] at h8
      have h8' : σ.1 8 1 = I (sk 1) := h8
      have f := fin (v - 4) (by omega) (by omega) (by omega)
      rw [show v / 4 = 1 by omega] at f ⊢
      rw [if_neg c4, Option.bind_some, if_pos (show inb (1 : Int32) 2 = true by decide), show ix (1 : Int32) = 1 by decide, h8', Option.bind_some, if_neg c4, Option.bind_some, show I v - (4 : Int32) + (1 : Int32) = I (v - 4 + 1) by rw [show (4 : Int32) = I 4 from rfl, show (1 : Int32) = I 1 from rfl, I_sub, I_add]]
      exact f
  rw [key]
  refine ⟨fun q => by rw [if_pos (hou.mp q)], fun q => by rw [if_neg (fun w => q (hou.mpr w))]⟩
theorem c_outp {v : Int} (v0 : 0 ≤ v) (v1 : v < 8) : f_X1_outerPoint (I v) = I (pt (slv v)) := by
  unfold f_X1_outerPoint f_X11_isInside
  rw [if_pos (⟨(Ile' (0) (0) (by omega) (by omega) (by omega) (by omega)).mpr (by omega), (Ilt (8) (8) (by omega) (by omega) (by omega) (by omega)).mpr (by omega)⟩ : (0 : Int32) ≤ I v ∧ I v < (8 : Int32)), if_neg (show ¬ ((1 : Int32) = 0) by decide), show (1720 : Int32) = I 1720 from rfl, I_add, (slv_b v0 v1).2.2.2.2]
theorem ou_slv (h : ShtH B D Ou r) {x : Int} (hx : Ou x) : slv (pt x - 1720) = x ∧ 0 ≤ pt x - 1720 ∧ pt x - 1720 < 8 := by
  have hb := h.2.2.2.2.1 x hx
  unfold pt slv
  rw [if_neg (by omega), if_neg (by omega)]
  omega
theorem c_slots (hF : 10000 ≤ F) (h : CH B D Ou r far sk rl σ) (rt : rl = true) : ∀ (m : Nat) (v : Int) (M : Int → Prop) (g : St), 0 ≤ v → v ≤ 8 → 8 - v < m → Fr7 σ g → MkC D g M → ∃ g', Fr7 σ g' ∧ ((Alf B D sk rl far (fun t => Ou t ∧ v ≤ pt t - 1720) ∧ f_X6_slotsFit_L2 F m (I v) g = some (I 1, g') ∧ MkC D g' (fun z => M z ∨ ∃ t, (Ou t ∧ v ≤ pt t - 1720) ∧ Pw D r far t z)) ∨ (¬ Alf B D sk rl far (fun t => Ou t ∧ v ≤ pt t - 1720) ∧ f_X6_slotsFit_L2 F m (I v) g = some (I 0, g'))) := by
  have hS := h.1
  intro m
  induction m with
  | zero => intro v M g h0 h1 h2; omega
  | succ m ih =>
    intro v M g h0 h1 h2 h3 h4
    have hg := ch7 h h3
    rw [f_X6_slotsFit_L2]
    by_cases hv : v = 8
    · rw [if_neg (by rw [hv]; exact Int32.lt_irrefl)]
      have hno : ∀ t, ¬ (Ou t ∧ v ≤ pt t - 1720) := fun t q => by
        have := (ou_slv hS q.1).2.2
        omega
      refine ⟨g, h3, Or.inl ⟨fun t q => absurd q (hno t), rfl, mkc_iff h4 (fun v _ _ => ?_)⟩⟩
      unfold NmM
      constructor
      · rintro (q | q)
        · exact Or.inl (Or.inl q)
        · exact Or.inr (Or.inl q)
      · rintro ((q | ⟨t, q, _⟩) | (q | ⟨t, q, _⟩))
        · exact Or.inl q
        · exact absurd q (hno t)
        · exact Or.inr q
        · exact absurd q (hno t)
    · have sb := slv_b h0 (show v < 8 by omega)
      have hs := c_hasSlot hg rt h0 (show v < 8 by omega)
      have c8 : I v < (8 : Int32) := (Ilt (8) (8) (by omega) (by omega) (by omega) (by omega)).mpr (by omega)
      have ev : I v + (1 : Int32) = I (v + 1) := by rw [show (1 : Int32) = I 1 from rfl, I_add]
      have hag : ∀ t, (Ou t ∧ v ≤ pt t - 1720) ↔ (Ou (slv v) ∧ t = slv v) ∨ (Ou t ∧ v + 1 ≤ pt t - 1720) := fun t => by
        constructor
        · rintro ⟨q, w⟩
          by_cases e : v + 1 ≤ pt t - 1720
          · exact Or.inr ⟨q, e⟩
          · have e1 := (ou_slv hS q).1
            rw [show pt t - 1720 = v by omega] at e1
            exact Or.inl ⟨by rw [e1]; exact q, e1.symm⟩
        · rintro (q | q)
          · rw [q.2]; exact ⟨q.1, by omega⟩
          · exact ⟨q.1, by omega⟩
      by_cases ho : Ou (slv v)
      · have td : Dmv B D Ou (slv v) := Or.inr (Or.inr ho)
        have tn := ou_n hS ho
        obtain ⟨g1, b1, b2, b3⟩ := c_far1 hF hg td tn h4
        have hg1 := ch7 hg b2
        have fd := h.2.2.1 _ td tn
        have cf := c_fits hg1.1 hg1.2.1 hg1.2.2.2.2 td tn (Or.inr rt) fd.2.1 fd.2.2.1
        have ss := (c_slotSort hS hg.2.1 hg.2.2.2.2 rt ho).1
        rw [show pt (slv v) - 1720 = v by omega] at ss
        rw [if_pos c8, hs.1 ho, Option.bind_some, Option.bind_some, if_neg (show ¬ (I 1 = (0 : Int32)) by decide), ss, Option.bind_some, c_outp h0 (by omega), Option.bind_some, b1, Option.bind_some, cf, Option.bind_some]
        by_cases hf : fitt B D sk rl (slv v) (far (slv v)) = true
        · rw [if_pos hf, if_neg (show ¬ (I 1 = (0 : Int32)) by decide), ev]
          obtain ⟨g', c1, c2⟩ := ih (v + 1) _ g1 (by omega) (by omega) (by omega) (fr7_tr h3 b2) b3
          refine ⟨g', c1, ?_⟩
          rcases c2 with ⟨d1, d2, d3⟩ | ⟨d1, d2⟩
          · refine Or.inl ⟨fun t q => ?_, d2, mkc_iff d3 (fun u _ _ => ?_)⟩
            · rcases (hag t).mp q with w | w
              · rw [w.2]; exact hf
              · exact d1 t w
            · have e : ∀ z, ((M z ∨ Pw D r far (slv v) z) ∨ ∃ t, (Ou t ∧ v + 1 ≤ pt t - 1720) ∧ Pw D r far t z) ↔ (M z ∨ ∃ t, (Ou t ∧ v ≤ pt t - 1720) ∧ Pw D r far t z) := fun z => by
                constructor
                · rintro ((q | q) | ⟨t, q, w⟩)
                  · exact Or.inl q
                  · exact Or.inr ⟨slv v, (hag _).mpr (Or.inl ⟨ho, rfl⟩), q⟩
                  · exact Or.inr ⟨t, (hag t).mpr (Or.inr q), w⟩
                · rintro (q | ⟨t, q, w⟩)
                  · exact Or.inl (Or.inl q)
                  · rcases (hag t).mp q with x | x
                    · rw [x.2] at w; exact Or.inl (Or.inr w)
                    · exact Or.inr ⟨t, x, w⟩
              unfold NmM
              exact or_congr (e _) (e _)
          · exact Or.inr ⟨fun q => d1 (fun t w => q t ((hag t).mpr (Or.inr w))), d2⟩
        · rw [if_neg hf, if_pos (show I 0 = (0 : Int32) from rfl)]
          exact ⟨g1, fr7_tr h3 b2, Or.inr ⟨fun q => hf (q _ ((hag _).mpr (Or.inl ⟨ho, rfl⟩))), rfl⟩⟩
      · rw [if_pos c8, hs.2 ho, Option.bind_some, Option.bind_some, if_pos (show I 0 = (0 : Int32) from rfl), ev]
        have hag' : ∀ t, (Ou t ∧ v ≤ pt t - 1720) ↔ (Ou t ∧ v + 1 ≤ pt t - 1720) := fun t => by
          rw [hag]
          exact ⟨fun q => by rcases q with w | w; exact absurd w.1 ho; exact w, Or.inr⟩
        obtain ⟨g', c1, c2⟩ := ih (v + 1) M g (by omega) (by omega) (by omega) h3 h4
        refine ⟨g', c1, ?_⟩
        rcases c2 with ⟨d1, d2, d3⟩ | ⟨d1, d2⟩
        · refine Or.inl ⟨fun t q => d1 t ((hag' t).mp q), d2, mkc_iff d3 (fun u _ _ => ?_)⟩
          have e : ∀ z, (M z ∨ ∃ t, (Ou t ∧ v + 1 ≤ pt t - 1720) ∧ Pw D r far t z) ↔ (M z ∨ ∃ t, (Ou t ∧ v ≤ pt t - 1720) ∧ Pw D r far t z) := fun z => by
            constructor
            · rintro (q | ⟨t, q, w⟩)
              · exact Or.inl q
              · exact Or.inr ⟨t, (hag' t).mpr q, w⟩
            · rintro (q | ⟨t, q, w⟩)
              · exact Or.inl q
              · exact Or.inr ⟨t, (hag' t).mp q, w⟩
          unfold NmM
          exact or_congr (e _) (e _)
        · exact Or.inr ⟨fun q => d1 (fun t w => q t ((hag' t).mpr w)), d2⟩
end FTA
