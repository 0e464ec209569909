section FTM
variable {B : BkT} {D : DrT} {Ou : Int → Prop} {r far sk : Int → Int} {rl : Bool} {σ τ : St} {F : Nat}
theorem m_clr : ∀ (m : Nat) (v : Int) (g : St), 0 ≤ v → v ≤ 1211 → 1211 - v < m → Fr35 τ g → (∀ i : Int, 0 ≤ i → i < v → g.1 35 i.toNat = I 0) → ∃ g', f_X12_fitAll_L2 F m (I v) g = some g' ∧ Fr35 τ g' ∧ ∀ i : Int, 0 ≤ i → i < 1211 → g'.1 35 i.toNat = I 0 := by
  intro m
  induction m with
  | zero => intro v g h0 h1 h2; omega
  | succ m ih =>
    intro v g h0 h1 h2 h3 h4
    rw [f_X12_fitAll_L2]
    by_cases hv : v = 1211
    · rw [if_neg (by rw [hv]; exact Int32.lt_irrefl)]
      exact ⟨g, rfl, h3, fun i a b => h4 i a (by omega)⟩
    · rw [if_pos ((Ilt (1211) (1211) (by omega) (by omega) (by omega) (by omega)).mpr (by omega)), if_pos ((I_inb (by omega) (by omega)).mpr ⟨by omega, by omega⟩), show ix (I v) = v.toNat from I_ix (by omega) (by omega), Option.bind_some, show I v + (1 : Int32) = I (v + 1) by rw [show (1 : Int32) = I 1 from rfl, I_add]]
      refine ih (v + 1) _ (by omega) (by omega) (by omega) (fr35_tr h3 ⟨rfl, fun c q => seti_r q⟩) (fun i a b => ?_)
      rw [seti1]
      by_cases e : i = v
      · rw [if_pos ⟨rfl, by rw [e]⟩]; rfl
      · rw [if_neg (by omega)]; exact h4 i a (by omega)
def AcO (acc acc' : Int) (P : Prop) : Prop := (acc' = 0 ∨ acc' = 1) ∧ (acc' = 1 ↔ (acc = 1 ∧ P))
theorem acc_step {f : Bool} {acc : Int} (ha : acc = 0 ∨ acc = 1) : (if (I (if f = true then (1 : Int) else 0) = 0) ∨ (I acc = 0) then some (0 : Int32) else some (1 : Int32)) = some (I (if f = true ∧ acc = 1 then 1 else 0)) := by
  rcases ha with rfl | rfl <;> cases f <;> decide
theorem m_f36 (hF : 10000 ≤ F) (h : MH B D Ou r far sk rl τ) {a : Int} (a0 : 0 ≤ a) (a1 : a < Dna D) : ∀ (m : Nat) (p acc : Int) (M : Int → Prop) (g : St), 0 ≤ p → p ≤ Bpt B (Dak D a) → Bpt B (Dak D a) - p < m → (acc = 0 ∨ acc = 1) → Fr35 τ g → MkM D g M → ∃ g' acc', f_X12_fitAll_L36 F (I a) m (I acc) (I p) g = some (I acc', g') ∧ Fr35 τ g' ∧ AcO acc acc' (Alf B D sk rl far (fun t => 5 * a + p ≤ t ∧ t < 5 * a + Bpt B (Dak D a))) ∧ MkM D g' (fun z => M z ∨ ∃ t, (5 * a + p ≤ t ∧ t < 5 * a + Bpt B (Dak D a)) ∧ Pw D r far t z) := by
  have hS := h.1
  have k := hS.2.2.1 a a0 a1
  have pb := hS.1.2.2.1 _ k.1 k.2
  have na := hS.2.1
  have b16 := hS.1.2.1
  intro m
  induction m with
  | zero => intro p acc M g h0 h1 h2; omega
  | succ m ih =>
    intro p acc M g h0 h1 h2 ha h3 h4
    have hg := mh35 h h3
    have m27 := hg.2.2.2.2.2.2.2.1 a a0 a1
    have m18 := hg.2.2.2.2.1.2.2.1 _ k.1 k.2
    rw [f_X12_fitAll_L36, if_pos ((I_inb (by omega) (by omega)).mpr ⟨by omega, by omega⟩ : inb (I a) 200 = true), show ix (I a) = a.toNat from I_ix (by omega) (by omega), m27, if_pos ((I_inb (by omega) (by omega)).mpr ⟨by omega, by omega⟩ : inb (I (Dak D a)) 16 = true), show ix (I (Dak D a)) = (Dak D a).toNat from I_ix (by omega) (by omega), m18]
    by_cases hp : p = Bpt B (Dak D a)
    · rw [if_neg (by rw [hp]; exact Int32.lt_irrefl)]
      refine ⟨g, acc, rfl, h3, ⟨ha, ⟨fun q => ⟨q, fun t w => by omega⟩, fun q => q.1⟩⟩, mkm_iff h4 (fun z _ _ => ?_)⟩
      constructor
      · exact Or.inl
      · rintro (q | ⟨t, q, _⟩)
        · exact q
        · omega
    · have ap := agp (sk := sk) hS a0 a1 h0 (show p < Bpt B (Dak D a) by omega)
      have td : Dmv B D Ou (5 * a + p) := Or.inl ap.1
      have tn := ag_n ap.1
      obtain ⟨g1, b1, b2, b3, b4⟩ := m_fits hg.1 hF hg.2.1 hg.2.2.1 hg.2.2.2.1 hg.2.2.2.2 td tn (Or.inl (by omega)) h4
      rw [if_pos ((I_lt (by omega) (by omega) (by omega) (by omega)).mpr (by omega)), show (5 : Int32) * I a + I p = I (5 * a + p) by rw [show (5 : Int32) = I 5 from rfl, I_mul, I_add], b1, Option.bind_some, acc_step ha, Option.bind_some, show I p + (1 : Int32) = I (p + 1) by rw [show (1 : Int32) = I 1 from rfl, I_add]]
      obtain ⟨g', acc', c1, c2, c3, c4⟩ := ih (p + 1) (if fitt B D sk rl (5 * a + p) (far (5 * a + p)) = true ∧ acc = 1 then 1 else 0) _ g1 (by omega) (by omega) (by omega) (by split; exact Or.inr rfl; exact Or.inl rfl) (fr35_tr h3 ⟨b2, b3⟩) b4
      refine ⟨g', acc', c1, c2, ⟨c3.1, c3.2.trans ?_⟩, mkm_iff c4 (fun z _ _ => ?_)⟩
      · constructor
        · rintro ⟨q, w⟩
          have q' : fitt B D sk rl (5 * a + p) (far (5 * a + p)) = true ∧ acc = 1 := by
            by_cases x : fitt B D sk rl (5 * a + p) (far (5 * a + p)) = true ∧ acc = 1
            · exact x
            · rw [if_neg x] at q; omega
          refine ⟨q'.2, fun t x => ?_⟩
          by_cases e : t = 5 * a + p
          · rw [e]; exact q'.1
          · exact w t (by omega)
        · rintro ⟨q, w⟩
          exact ⟨if_pos ⟨w _ (by omega), q⟩, fun t x => w t (by omega)⟩
      · constructor
        · rintro ((q | q) | ⟨t, q, w⟩)
          · exact Or.inl q
          · exact Or.inr ⟨5 * a + p, by omega, q⟩
          · exact Or.inr ⟨t, by omega, w⟩
        · rintro (q | ⟨t, q, w⟩)
          · exact Or.inl (Or.inl q)
          · by_cases e : t = 5 * a + p
            · rw [e] at w; exact Or.inl (Or.inr w)
            · exact Or.inr ⟨t, by omega, w⟩
theorem ag_split {a : Int} (a0 : 0 ≤ a) (a1 : a < Dna D) (na : Dna D ≤ 200) (pb : Bpt B (Dak D a) ≤ 5) (t : Int) : (Agv B D t ∧ 5 * a ≤ t) ↔ (5 * a + 0 ≤ t ∧ t < 5 * a + Bpt B (Dak D a)) ∨ (Agv B D t ∧ 5 * (a + 1) ≤ t) := by
  constructor
  · rintro ⟨q, w⟩
    by_cases e : 5 * (a + 1) ≤ t
    · exact Or.inr ⟨q, e⟩
    · have e1 : t / 5 = a := by omega
      have := q.2.2.2
      rw [e1] at this
      exact Or.inl (by omega)
  · rintro (q | q)
    · have e1 : t / 5 = a := by omega
      exact ⟨⟨by omega, by omega, by omega, by rw [e1]; omega⟩, by omega⟩
    · exact ⟨q.1, by omega⟩
theorem m_f26 (hF : 10000 ≤ F) (h : MH B D Ou r far sk rl τ) : ∀ (m : Nat) (a acc : Int) (M : Int → Prop) (g : St), 0 ≤ a → a ≤ Dna D → Dna D - a < m → (acc = 0 ∨ acc = 1) → Fr35 τ g → MkM D g M → ∃ g' acc', f_X12_fitAll_L26 F m (I acc) (I a) g = some (I acc', g') ∧ Fr35 τ g' ∧ AcO acc acc' (Alf B D sk rl far (fun t => Agv B D t ∧ 5 * a ≤ t)) ∧ MkM D g' (fun z => M z ∨ ∃ t, (Agv B D t ∧ 5 * a ≤ t) ∧ Pw D r far t z) := by
  have hS := h.1
  have na := hS.2.1
  intro m
  induction m with
  | zero => intro a acc M g h0 h1 h2; omega
  | succ m ih =>
    intro a acc M g h0 h1 h2 ha h3 h4
    have hg := mh35 h h3
    rw [f_X12_fitAll_L26, hg.2.2.2.2.2.1]
    by_cases hp : a = Dna D
    · rw [if_neg (by rw [hp]; exact Int32.lt_irrefl)]
      have hno : ∀ t, ¬ (Agv B D t ∧ 5 * a ≤ t) := fun t q => by
        have := q.1.2.2.1
        omega
      refine ⟨g, acc, rfl, h3, ⟨ha, ⟨fun q => ⟨q, fun t w => absurd w (hno t)⟩, fun q => q.1⟩⟩, mkm_iff h4 (fun z _ _ => ?_)⟩
      constructor
      · exact Or.inl
      · rintro (q | ⟨t, q, _⟩)
        · exact q
        · exact absurd q (hno t)
    · have k := hS.2.2.1 a h0 (by omega)
      have pb := hS.1.2.2.1 _ k.1 k.2
      have hag := ag_split (B := B) (D := D) h0 (show a < Dna D by omega) na.2 pb.2
      obtain ⟨g1, ac1, b1, b2, b3, b4⟩ := m_f36 hF h h0 (show a < Dna D by omega) F 0 acc M g (by omega) (by omega) (by omega) ha h3 h4
      rw [if_pos ((I_lt (by omega) (by omega) (by omega) (by omega)).mpr (by omega)), show (0 : Int32) = I 0 from rfl, b1, Option.bind_some, show I a + (1 : Int32) = I (a + 1) by rw [show (1 : Int32) = I 1 from rfl, I_add]]
      obtain ⟨g', acc', c1, c2, c3, c4⟩ := ih (a + 1) ac1 _ g1 (by omega) (by omega) (by omega) b3.1 b2 b4
      refine ⟨g', acc', c1, c2, ⟨c3.1, c3.2.trans ?_⟩, mkm_iff c4 (fun z _ _ => ?_)⟩
      · rw [b3.2]
        constructor
        · rintro ⟨⟨q, w⟩, x⟩
          refine ⟨q, fun t y => ?_⟩
          rcases (hag t).mp y with u | u
          · exact w t u
          · exact x t u
        · rintro ⟨q, w⟩
          exact ⟨⟨q, fun t y => w t ((hag t).mpr (Or.inl y))⟩, fun t y => w t ((hag t).mpr (Or.inr y))⟩
      · constructor
        · rintro ((q | ⟨t, q, w⟩) | ⟨t, q, w⟩)
          · exact Or.inl q
          · exact Or.inr ⟨t, (hag t).mpr (Or.inl q), w⟩
          · exact Or.inr ⟨t, (hag t).mpr (Or.inr q), w⟩
        · rintro (q | ⟨t, q, w⟩)
          · exact Or.inl (Or.inl q)
          · rcases (hag t).mp q with x | x
            · exact Or.inl (Or.inr ⟨t, x, w⟩)
            · exact Or.inr ⟨t, x, w⟩
theorem m_fitAll (hF : 10000 ≤ F) (h : MH B D Ou r far sk rl τ) : ∃ g' acc, f_X12_fitAll F τ = some (I acc, g') ∧ Fr35 τ g' ∧ (acc = 0 ∨ acc = 1) ∧ (acc = 1 ↔ Alf B D sk rl far (Agv B D)) ∧ MkM D g' (fun z => ∃ t, Agv B D t ∧ Pw D r far t z) := by
  have na := h.1.2.1
  have nn := h.1.2.2.2.1
  obtain ⟨g1, a1, a2, a3⟩ := m_clr (F := F) (τ := τ) F 0 τ (by omega) (by omega) (by omega) ⟨rfl, fun _ _ => rfl⟩ (fun i _ _ => by omega)
  have hm : MkM D g1 (fun _ => False) := fun x sx _ => ⟨fun q => q.elim, fun _ => a3 x (by unfold SNv at sx; omega) (by unfold SNv at sx; omega)⟩
  obtain ⟨g2, acc, b1, b2, b3, b4⟩ := m_f26 hF h F 0 1 _ g1 (by omega) (by omega) (by omega) (Or.inr rfl) a2 hm
  have e0 : ∀ t, (Agv B D t ∧ 5 * 0 ≤ t) ↔ Agv B D t := fun t => ⟨fun q => q.1, fun q => ⟨q, by have := q.1; omega⟩⟩
  refine ⟨g2, acc, ?_, b2, b3.1, b3.2.trans ⟨fun q t w => q.2 t ((e0 t).mpr w), fun q => ⟨rfl, fun t w => q t w.1⟩⟩, mkm_iff b4 (fun z _ _ => ?_)⟩
  · unfold f_X12_fitAll
    have a1' : f_X12_fitAll_L2 F F (0 : Int32) τ = some g1 := a1
    have b1' : f_X12_fitAll_L26 F F (1 : Int32) (0 : Int32) g1 = some (I acc, g2) := b1
    rw [a1', Option.bind_some, b1', Option.bind_some, if_pos (show I acc = 0 ∨ I acc = 1 by rcases b3.1 with q | q <;> (rw [q]; decide))]
  · constructor
    · rintro (q | ⟨t, q, w⟩)
      · exact q.elim
      · exact ⟨t, q.1, w⟩
    · rintro ⟨t, q, w⟩
      exact Or.inr ⟨t, (e0 t).mpr q, w⟩
theorem m_f11 (hF : 10000 ≤ F) (h : MH B D Ou r far sk rl τ) (rt : rl = true) {s : Int} (s0 : 0 ≤ s) (s1 : s ≤ 1) : ∀ (m : Nat) (p acc : Int) (M : Int → Prop) (g : St), 1 ≤ p → p ≤ Bpt B (sk s) → Bpt B (sk s) - p < m → (acc = 0 ∨ acc = 1) → Fr35 τ g → MkM D g M → ∃ g' acc', f_X12_fitSides_L11 F (I s) m (I acc) (I p) g = some (I acc', g') ∧ Fr35 τ g' ∧ AcO acc acc' (Alf B D sk rl far (fun t => 1200 + 5 * s + p ≤ t ∧ t < 1200 + 5 * s + Bpt B (sk s))) ∧ MkM D g' (fun z => M z ∨ ∃ t, (1200 + 5 * s + p ≤ t ∧ t < 1200 + 5 * s + Bpt B (sk s)) ∧ Pw D r far t z) := by
  have hS := h.1
  have hO := h.2.1 rt
  have k := hO.1 s s0 s1
  have pb := hS.1.2.2.1 _ k.1 k.2
  have b16 := hS.1.2.1
  intro m
  induction m with
  | zero => intro p acc M g h0 h1 h2; omega
  | succ m ih =>
    intro p acc M g h0 h1 h2 ha h3 h4
    have hg := mh35 h h3
    have m32 := hg.2.2.2.2.2.2.2.2 rt s s0 s1
    have m18 := hg.2.2.2.2.1.2.2.1 _ k.1 k.2
    rw [f_X12_fitSides_L11, if_pos ((I_inb (by omega) (by omega)).mpr ⟨by omega, by omega⟩ : inb (I s) 2 = true), show ix (I s) = s.toNat from I_ix (by omega) (by omega), m32, if_pos ((I_inb (by omega) (by omega)).mpr ⟨by omega, by omega⟩ : inb (I (sk s)) 16 = true), show ix (I (sk s)) = (sk s).toNat from I_ix (by omega) (by omega), m18]
    by_cases hp : p = Bpt B (sk s)
    · rw [if_neg (by rw [hp]; exact Int32.lt_irrefl)]
      refine ⟨g, acc, rfl, h3, ⟨ha, ⟨fun q => ⟨q, fun t w => by omega⟩, fun q => q.1⟩⟩, mkm_iff h4 (fun z _ _ => ?_)⟩
      constructor
      · exact Or.inl
      · rintro (q | ⟨t, q, _⟩)
        · exact q
        · omega
    · have ho : Ou (1200 + 5 * s + p) := (hO.2 _).mpr ⟨by omega, by omega, by omega, by rw [show (1200 + 5 * s + p - 1200) / 5 = s by omega]; omega⟩
      have td : Dmv B D Ou (1200 + 5 * s + p) := Or.inr (Or.inr ho)
      have tn := ou_n hS ho
      obtain ⟨g1, b1, b2, b3, b4⟩ := m_fits hg.1 hF hg.2.1 hg.2.2.1 hg.2.2.2.1 hg.2.2.2.2 td tn (Or.inr rt) h4
      rw [if_pos ((I_lt (by omega) (by omega) (by omega) (by omega)).mpr (by omega)), show (1200 : Int32) + (5 : Int32) * I s + I p = I (1200 + 5 * s + p) by rw [show (5 : Int32) = I 5 from rfl, show (1200 : Int32) = I 1200 from rfl, I_mul, I_add, I_add], b1, Option.bind_some, acc_step ha, Option.bind_some, show I p + (1 : Int32) = I (p + 1) by rw [show (1 : Int32) = I 1 from rfl, I_add]]
      obtain ⟨g', acc', c1, c2, c3, c4⟩ := ih (p + 1) (if fitt B D sk rl (1200 + 5 * s + p) (far (1200 + 5 * s + p)) = true ∧ acc = 1 then 1 else 0) _ g1 (by omega) (by omega) (by omega) (by split; exact Or.inr rfl; exact Or.inl rfl) (fr35_tr h3 ⟨b2, b3⟩) b4
      refine ⟨g', acc', c1, c2, ⟨c3.1, c3.2.trans ?_⟩, mkm_iff c4 (fun z _ _ => ?_)⟩
      · constructor
        · rintro ⟨q, w⟩
          have q' : fitt B D sk rl (1200 + 5 * s + p) (far (1200 + 5 * s + p)) = true ∧ acc = 1 := by
            by_cases x : fitt B D sk rl (1200 + 5 * s + p) (far (1200 + 5 * s + p)) = true ∧ acc = 1
            · exact x
            · rw [if_neg x] at q; omega
          refine ⟨q'.2, fun t x => ?_⟩
          by_cases e : t = 1200 + 5 * s + p
          · rw [e]; exact q'.1
          · exact w t (by omega)
        · rintro ⟨q, w⟩
          exact ⟨if_pos ⟨w _ (by omega), q⟩, fun t x => w t (by omega)⟩
      · constructor
        · rintro ((q | q) | ⟨t, q, w⟩)
          · exact Or.inl q
          · exact Or.inr ⟨1200 + 5 * s + p, by omega, q⟩
          · exact Or.inr ⟨t, by omega, w⟩
        · rintro (q | ⟨t, q, w⟩)
          · exact Or.inl (Or.inl q)
          · by_cases e : t = 1200 + 5 * s + p
            · rw [e] at w; exact Or.inl (Or.inr w)
            · exact Or.inr ⟨t, by omega, w⟩
theorem ou_split (h : ShtH B D Ou r) (hO : OuRl B sk rl Ou) (rt : rl = true) {s : Int} (s0 : 0 ≤ s) (s1 : s ≤ 1) (t : Int) : (Ou t ∧ 1200 + 5 * s ≤ t) ↔ (1200 + 5 * s + 1 ≤ t ∧ t < 1200 + 5 * s + Bpt B (sk s)) ∨ (Ou t ∧ 1200 + 5 * (s + 1) ≤ t) := by
  have hO' := hO rt
  have k := hO'.1 s s0 s1
  have pb := h.1.2.2.1 _ k.1 k.2
  constructor
  · rintro ⟨q, w⟩
    by_cases e : 1200 + 5 * (s + 1) ≤ t
    · exact Or.inr ⟨q, e⟩
    · have e1 : (t - 1200) / 5 = s := by omega
      have := (hO'.2 t).mp q
      rw [e1] at this
      exact Or.inl (by omega)
  · rintro (q | q)
    · have e1 : (t - 1200) / 5 = s := by omega
      exact ⟨(hO'.2 t).mpr ⟨by omega, by omega, by omega, by rw [e1]; omega⟩, by omega⟩
    · exact ⟨q.1, by omega⟩
theorem m_f4 (hF : 10000 ≤ F) (h : MH B D Ou r far sk rl τ) (rt : rl = true) : ∀ (m : Nat) (s acc : Int) (M : Int → Prop) (g : St), 0 ≤ s → s ≤ 2 → 2 - s < m → (acc = 0 ∨ acc = 1) → Fr35 τ g → MkM D g M → ∃ g' acc', f_X12_fitSides_L4 F m (I acc) (I s) g = some (I acc', g') ∧ Fr35 τ g' ∧ AcO acc acc' (Alf B D sk rl far (fun t => Ou t ∧ 1200 + 5 * s ≤ t)) ∧ MkM D g' (fun z => M z ∨ ∃ t, (Ou t ∧ 1200 + 5 * s ≤ t) ∧ Pw D r far t z) := by
  have hS := h.1
  intro m
  induction m with
  | zero => intro a acc M g h0 h1 h2; omega
  | succ m ih =>
    intro s acc M g h0 h1 h2 ha h3 h4
    rw [f_X12_fitSides_L4]
    by_cases hp : s = 2
    · rw [if_neg (by rw [hp]; exact Int32.lt_irrefl)]
      have hno : ∀ t, ¬ (Ou t ∧ 1200 + 5 * s ≤ t) := fun t q => by
        have := hS.2.2.2.2.1 t q.1
        omega
      refine ⟨g, acc, rfl, h3, ⟨ha, ⟨fun q => ⟨q, fun t w => absurd w (hno t)⟩, fun q => q.1⟩⟩, mkm_iff h4 (fun z _ _ => ?_)⟩
      constructor
      · exact Or.inl
      · rintro (q | ⟨t, q, _⟩)
        · exact q
        · exact absurd q (hno t)
    · have hO' := h.2.1 rt
      have k := hO'.1 s h0 (by omega)
      have pb := hS.1.2.2.1 _ k.1 k.2
      have hag := ou_split hS h.2.1 rt h0 (show s ≤ 1 by omega)
      obtain ⟨g1, ac1, b1, b2, b3, b4⟩ := m_f11 hF h rt h0 (show s ≤ 1 by omega) F 1 acc M g (by omega) (by omega) (by omega) ha h3 h4
      rw [if_pos ((Ilt (2) (2) (by omega) (by omega) (by omega) (by omega)).mpr (by omega)), show f_X12_fitSides_L11 F (I s) F (I acc) (1 : Int32) g = _ from b1, Option.bind_some, show I s + (1 : Int32) = I (s + 1) by rw [show (1 : Int32) = I 1 from rfl, I_add]]
      obtain ⟨g', acc', c1, c2, c3, c4⟩ := ih (s + 1) ac1 _ g1 (by omega) (by omega) (by omega) b3.1 b2 b4
      refine ⟨g', acc', c1, c2, ⟨c3.1, c3.2.trans ?_⟩, mkm_iff c4 (fun z _ _ => ?_)⟩
      · rw [b3.2]
        constructor
        · rintro ⟨⟨q, w⟩, x⟩
          refine ⟨q, fun t y => ?_⟩
          rcases (hag t).mp y with u | u
          · exact w t u
          · exact x t u
        · rintro ⟨q, w⟩
          exact ⟨⟨q, fun t y => w t ((hag t).mpr (Or.inl y))⟩, fun t y => w t ((hag t).mpr (Or.inr y))⟩
      · constructor
        · rintro ((q | ⟨t, q, w⟩) | ⟨t, q, w⟩)
          · exact Or.inl q
          · exact Or.inr ⟨t, (hag t).mpr (Or.inl q), w⟩
          · exact Or.inr ⟨t, (hag t).mpr (Or.inr q), w⟩
        · rintro (q | ⟨t, q, w⟩)
          · exact Or.inl (Or.inl q)
          · rcases (hag t).mp q with x | x
            · exact Or.inl (Or.inr ⟨t, x, w⟩)
            · exact Or.inr ⟨t, x, w⟩
theorem m_fitSides (hF : 10000 ≤ F) (h : MH B D Ou r far sk rl τ) (rt : rl = true) {M : Int → Prop} (hM : MkM D τ M) : ∃ g' acc, f_X12_fitSides F τ = some (I acc, g') ∧ Fr35 τ g' ∧ (acc = 0 ∨ acc = 1) ∧ (acc = 1 ↔ Alf B D sk rl far Ou) ∧ MkM D g' (fun z => M z ∨ ∃ t, Ou t ∧ Pw D r far t z) := by
  obtain ⟨g2, acc, b1, b2, b3, b4⟩ := m_f4 hF h rt F 0 1 _ τ (by omega) (by omega) (by omega) (Or.inr rfl) ⟨rfl, fun _ _ => rfl⟩ hM
  have e0 : ∀ t, (Ou t ∧ 1200 + 5 * 0 ≤ t) ↔ Ou t := fun t => ⟨fun q => q.1, fun q => ⟨q, by have := h.1.2.2.2.2.1 t q; omega⟩⟩
  refine ⟨g2, acc, ?_, b2, b3.1, b3.2.trans ⟨fun q t w => q.2 t ((e0 t).mpr w), fun q => ⟨rfl, fun t w => q t w.1⟩⟩, mkm_iff b4 (fun z _ _ => ?_)⟩
  · unfold f_X12_fitSides
    have b1' : f_X12_fitSides_L4 F F (1 : Int32) (0 : Int32) τ = some (I acc, g2) := b1
    rw [b1', Option.bind_some, if_pos (show I acc = 0 ∨ I acc = 1 by rcases b3.1 with q | q <;> (rw [q]; decide))]
  · constructor
    · rintro (q | ⟨t, q, w⟩)
      · exact Or.inl q
      · exact Or.inr ⟨t, q.1, w⟩
    · rintro (q | ⟨t, q, w⟩)
      · exact Or.inl q
      · exact Or.inr ⟨t, (e0 t).mpr q, w⟩
end FTM
