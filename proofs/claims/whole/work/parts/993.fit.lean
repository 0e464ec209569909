/-! do the sorts fit -/
def FarH (B : BkT) (D : DrT) (Ou : Int → Prop) (r far : Int → Int) : Prop := ∀ t, Dmv B D Ou t → ¬ SNv D t → (∃ k, k ≤ 60 ∧ Way r tw (SNv D) t k (far t)) ∧ Dmv B D Ou (far t) ∧ ¬ SNv D (far t) ∧ far t ≠ t ∧ far (far t) = t
def Pw (D : DrT) (r far : Int → Int) (t z : Int) : Prop := ∃ k, Way r tw (SNv D) t k (far t) ∧ OnP r tw t k z
theorem far_ex {B : BkT} {D : DrT} {Ou : Int → Prop} {r : Int → Int} (h : ShtH B D Ou r) : ∃ far, FarH B D Ou r far := by
  have key : ∀ t, ∃ y, Dmv B D Ou t → ¬ SNv D t → (∃ k, k ≤ 60 ∧ Way r tw (SNv D) t k y) ∧ Dmv B D Ou y ∧ ¬ SNv D y ∧ y ≠ t := by
    intro t
    by_cases ht : Dmv B D Ou t ∧ ¬ SNv D t
    · obtain ⟨k, y, k1, k2, k3, k4, k5⟩ := sh_way h ht.1 ht.2
      exact ⟨y, fun _ _ => ⟨⟨k, k1, k2⟩, k3, k4, k5⟩⟩
    · exact ⟨0, fun a b => absurd ⟨a, b⟩ ht⟩
  refine ⟨fun t => Classical.choose (key t), fun t ht hn => ?_⟩
  have h1 := Classical.choose_spec (key t) ht hn
  refine ⟨h1.1, h1.2.1, h1.2.2.1, h1.2.2.2, ?_⟩
  have h2 := Classical.choose_spec (key (Classical.choose (key t))) h1.2.1 h1.2.2.1
  obtain ⟨k, _, hw⟩ := h1.1
  obtain ⟨k', _, hw'⟩ := h2.1
  have := way_rev (sh_ph h) ht hn hw
  exact (way_uniq hw' this.2).2
def svt (B : BkT) (D : DrT) (sk : Int → Int) (x : Int) : Int := if x < 1000 then Bso B (5 * Dak D (x / 5) + x % 5) else -1 - Bso B (5 * sk ((x - 1200) / 5) + (x - 1200) % 5)
def fitt (B : BkT) (D : DrT) (sk : Int → Int) (rl : Bool) (x y : Int) : Bool := (!rl && decide (1200 ≤ y)) || decide (svt B D sk x = -1 - svt B D sk y)
/-- the outer places of a rule -/
def OuRl (B : BkT) (sk : Int → Int) (rl : Bool) (Ou : Int → Prop) : Prop := rl = true → (∀ s, 0 ≤ s → s ≤ 1 → 0 ≤ sk s ∧ sk s < Bkn B) ∧ ∀ x, Ou x ↔ (1200 ≤ x ∧ x < 1210 ∧ 1 ≤ (x - 1200) % 5 ∧ (x - 1200) % 5 < Bpt B (sk ((x - 1200) / 5)))
def CFs (B : BkT) (D : DrT) (sk : Int → Int) (rl : Bool) (σ : St) : Prop := KdC B (σ.1 15) (σ.2 16) (σ.1 17) (σ.1 18) ∧ σ.1 2 5 = I (Dna D) ∧ σ.1 2 6 = I (Dnn D) ∧ (∀ a, 0 ≤ a → a < Dna D → σ.1 4 a.toNat = I (Dak D a)) ∧ σ.1 1 2 = I (if rl = true then 1 else 0) ∧ (rl = true → ∀ s, 0 ≤ s → s ≤ 1 → σ.1 8 s.toNat = I (sk s))
def MFs (B : BkT) (D : DrT) (sk : Int → Int) (rl : Bool) (τ : St) : Prop := KdM B (τ.1 0 36) (τ.2 17) (τ.1 18) (τ.1 19) (τ.1 20) ∧ τ.1 0 49 = I (Dna D) ∧ τ.1 0 54 = I (Dnn D) ∧ (∀ a, 0 ≤ a → a < Dna D → τ.1 27 a.toNat = I (Dak D a)) ∧ (rl = true → ∀ s, 0 ≤ s → s ≤ 1 → τ.1 32 s.toNat = I (sk s))
theorem cf_fr {B : BkT} {D : DrT} {sk : Int → Int} {rl : Bool} {σ g : St} (h : CFs B D sk rl σ) (e : ∀ c, c = 1 ∨ c = 2 ∨ c = 4 ∨ c = 8 ∨ (15 ≤ c ∧ c ≤ 18) → g.1 c = σ.1 c) (e2 : g.2 16 = σ.2 16) : CFs B D sk rl g := by
  unfold CFs
  rw [e 15 (by omega), e 17 (by omega), e 18 (by omega), e 2 (by omega), e 4 (by omega), e 1 (by omega), e 8 (by omega), e2]
  exact h
theorem mf_fr {B : BkT} {D : DrT} {sk : Int → Int} {rl : Bool} {τ g : St} (h : MFs B D sk rl τ) (e : ∀ c, c = 0 ∨ (18 ≤ c ∧ c ≤ 20) ∨ c = 27 ∨ c = 32 → g.1 c = τ.1 c) (e2 : g.2 17 = τ.2 17) : MFs B D sk rl g := by
  unfold MFs
  rw [e 0 (by omega), e 18 (by omega), e 19 (by omega), e 20 (by omega), e 27 (by omega), e 32 (by omega), e2]
  exact h
section FIT
variable {B : BkT} {D : DrT} {Ou : Int → Prop} {r far sk : Int → Int} {rl : Bool} {σ τ : St} {F : Nat}
theorem so_b (h : ShtH B D Ou r) (hO : OuRl B sk rl Ou) {x : Int} (hx : Dmv B D Ou x) (hn : ¬ SNv D x) (hr : x < 1000 ∨ rl = true) : -26 ≤ svt B D sk x ∧ svt B D sk x < 26 := by
  have hV := h.1
  unfold svt
  rcases hx with q | q | q
  · have q' := q
    unfold Agv at q
    rw [if_pos (by omega)]
    have k := h.2.2.1 (x / 5) (by omega) q.2.2.1
    exact hV.2.2.2 _ _ k.1 k.2 (by omega) q.2.2.2
  · exact absurd q hn
  · have hb := h.2.2.2.2.1 x q
    have rt : rl = true := by
      rcases hr with w | w
      · omega
      · exact w
    rw [if_neg (by omega)]
    have hw := ((hO rt).2 x).mp q
    have hs := (hO rt).1 ((x - 1200) / 5) (by omega) (by omega)
    have := hV.2.2.2 _ _ hs.1 hs.2 (by omega) hw.2.2.2
    omega
theorem c_sortOf {k p : Int} (hV : KdV B) (hC : KdC B (σ.1 15) (σ.2 16) (σ.1 17) (σ.1 18)) (k0 : 0 ≤ k) (k1 : k < Bkn B) (p0 : 0 ≤ p) (p1 : p < Bpt B k) : f_X3_sortOf 15 (I k) (I p) σ = some (I (Bso B (5 * k + p))) := by
  have b1 := hV.2.1
  have pb := hV.2.2.1 k k0 k1
  have := hC.2.2.2 k p k0 k1 p0 p1
  unfold f_X3_sortOf
  simp (maxSteps := 4000000) (disch := omega) only [I_lits, nz, nc, if_pos, if_neg, if_true, if_false, Option.bind_some, true_and, and_true, and_self, or_true, true_or, or_false, false_or, not_true_eq_false, not_false_eq_true, false_and, and_false, Bool.false_eq_true, decide_true, decide_false, eq_self]
  rw [show k * 5 + p = 5 * k + p by omega, show 15 + 3 = 18 from rfl, this]
theorem c_kindOfD (h : ShtH B D Ou r) (hC : CFs B D sk rl σ) {a : Int} (a0 : 0 ≤ a) (a1 : a < Dna D) : f_X1_kindOf (I a) σ = some (I (Dak D a)) := by
  have hn := h.2.1
  have := hC.2.2.2.1 a a0 a1
  unfold f_X1_kindOf
  rw [hC.2.1]
  simp (maxSteps := 4000000) (disch := omega) only [I_lits, nz, nc, if_pos, if_neg, if_true, if_false, Option.bind_some, true_and, and_true, and_self, or_true, true_or, or_false, false_or, not_true_eq_false, not_false_eq_true, false_and, and_false, Bool.false_eq_true, decide_true, decide_false, eq_self, this]
theorem c_slotSort (h : ShtH B D Ou r) (hO : OuRl B sk rl Ou) (hC : CFs B D sk rl σ) (rt : rl = true) {y : Int} (hy : Ou y) : f_X6_slotSort (I (pt y - 1720)) σ = some (I (svt B D sk y)) ∧ pt y - 1720 = 4 * ((y - 1200) / 5) + (y - 1200) % 5 - 1 := by
  have hb := h.2.2.2.2.1 y hy
  have hw := ((hO rt).2 y).mp hy
  have hs := (hO rt).1 ((y - 1200) / 5) (by omega) (by omega)
  have h8 := hC.2.2.2.2.2 rt ((y - 1200) / 5) (by omega) (by omega)
  have ep : pt y - 1720 = 4 * ((y - 1200) / 5) + (y - 1200) % 5 - 1 := by
    unfold pt
    rw [if_neg (by omega), if_neg (by omega)]; omega
  refine ⟨?_, ep⟩
  have hso := c_sortOf h.1 hC.1 hs.1 hs.2 (show 0 ≤ (y - 1200) % 5 by omega) hw.2.2.2
  have b16 := h.1.2.1
  unfold f_X6_slotSort f_X6_slotKind f_X6_slotPort
  have esv : svt B D sk y = -1 - Bso B (5 * sk ((y - 1200) / 5) + (y - 1200) % 5) := if_neg (by omega)
  have p5 : (y - 1200) % 5 < 5 := by omega
  rw [ep, esv]
  generalize (y - 1200) % 5 = p at *
  by_cases e : (y - 1200) / 5 = 0
  · rw [e] at h8 hso ⊢
    rw [show (4 * 0 + p - 1) = p - 1 by omega]
    have e1 : (0 : Int).toNat = 0 := rfl
    rw [e1] at h8
    have c4 : I (p - 1) < (4 : Int32) := (Ilt (4) (4) (by omega) (by omega) (by omega) (by omega)).mpr (by omega)
    rw [if_pos c4, Option.bind_some, if_pos (show inb (0 : Int32) 2 = true by decide), show ix (0 : Int32) = 0 by decide, h8, Option.bind_some, Option.bind_some, if_pos c4, show I (p - 1) + (1 : Int32) = I p by rw [show (1 : Int32) = I 1 from rfl, I_add, show p - 1 + 1 = p by omega], hso, Option.bind_some, I_not]
  · have e' : (y - 1200) / 5 = 1 := by omega
    rw [e'] at h8 hso ⊢
    rw [show (4 * 1 + p - 1) = p + 3 by omega]
    have e1 : (1 : Int).toNat = 1 := rfl
    rw [e1] at h8
    have c4 : ¬ (I (p + 3) < (4 : Int32)) := fun q => by have := (Ilt (4) (4) (by omega) (by omega) (by omega) (by omega)).mp q; omega
    rw [if_neg c4, Option.bind_some, if_pos (show inb (1 : Int32) 2 = true by decide), show ix (1 : Int32) = 1 by decide, h8, Option.bind_some, Option.bind_some, if_neg c4, show I (p + 3) - (4 : Int32) + (1 : Int32) = I p by rw [show (4 : Int32) = I 4 from rfl, show (1 : Int32) = I 1 from rfl, I_sub, I_add, show p + 3 - 4 + 1 = p by omega], hso, Option.bind_some, I_not]
theorem c_fits (h : ShtH B D Ou r) (hO : OuRl B sk rl Ou) (hC : CFs B D sk rl σ) {x y : Int} (hx : Dmv B D Ou x) (hxn : ¬ SNv D x) (hxr : x < 1000 ∨ rl = true) (hy : Dmv B D Ou y) (hn : ¬ SNv D y) : f_X6_fits (I (svt B D sk x)) (I (fcd y)) σ = some (I (if fitt B D sk rl x y = true then 1 else 0)) := by
  have hp := pt_t h hy hn
  have sb := so_b h hO hx hxn hxr
  unfold f_X6_fits fitt
  rcases hy with q | q | q
  · have q' := q
    unfold Agv at q
    have ef : fcd y = 8 * (y / 5) + y % 5 := by
      unfold fcd pt
      rw [if_pos (by omega), if_pos (by omega)]
    have k := h.2.2.1 (y / 5) (by omega) q.2.2.1
    have pb := h.1.2.2.1 _ k.1 k.2
    have e1 : f_X11_agentOf (I (8 * (y / 5) + y % 5)) = I (y / 5) := by
      unfold f_X11_agentOf
      rw [I_shr3 (by omega) (by omega), show (8 * (y / 5) + y % 5) / 8 = y / 5 by omega]
    have e2 : f_X11_portOf (I (8 * (y / 5) + y % 5)) = I (y % 5) := by
      unfold f_X11_portOf
      rw [I_and7 (by omega) (by omega), show (8 * (y / 5) + y % 5) % 8 = y % 5 by omega]
    have e3 : svt B D sk y = Bso B (5 * Dak D (y / 5) + y % 5) := if_pos (by omega)
    have sby := so_b h hO (Or.inl q') hn (Or.inl (by omega : y < 1000))
    rw [ef, if_pos ((Ile' (0) (0) (by omega) (by omega) (by omega) (by omega)).mpr (by omega)), e1, Option.bind_some, c_kindOfD h hC (by omega) q.2.2.1, Option.bind_some, e2, Option.bind_some, c_sortOf h.1 hC.1 k.1 k.2 (by omega) q.2.2.2, Option.bind_some, I_not, ← e3]
    by_cases e : svt B D sk x = -1 - svt B D sk y
    · rw [if_pos (by rw [e]), if_pos (by rw [Bool.or_eq_true]; right; exact decide_eq_true e)]; rfl
    · rw [if_neg (fun w => e ((I_eq (by omega) (by omega) (by omega) (by omega)).mp w)), if_neg (by
        rw [Bool.or_eq_true, Bool.and_eq_true]
        rintro (w | w)
        · have := of_decide_eq_true w.2; omega
        · exact e (of_decide_eq_true w))]; rfl
  · exact absurd q hn
  · have hb := h.2.2.2.2.1 y q
    have ef : fcd y = -2 - (pt y - 1720) := by
      unfold fcd
      rw [if_neg (by omega)]
    rw [ef, if_neg (fun w => by have := (Ile' (0) (0) (by omega) (by omega) (by omega) (by omega)).mp w; omega), hC.2.2.2.2.1]
    by_cases rt : rl = true
    · have ss := c_slotSort h hO hC rt q
      have sby := so_b h hO (Or.inr (Or.inr q)) hn (Or.inr rt)
      rw [if_pos rt, if_neg (show ¬ (I 1 = (0 : Int32)) by decide)]
      unfold f_X11_endOf
      rw [show (-2 : Int32) - I (-2 - (pt y - 1720)) = I (pt y - 1720) by rw [show (-2 : Int32) = I (-2) from rfl, I_sub, show -2 - (-2 - (pt y - 1720)) = pt y - 1720 by omega], Option.bind_some, ss.1, Option.bind_some, I_not]
      by_cases e : svt B D sk x = -1 - svt B D sk y
      · rw [if_pos (by rw [e]), if_pos (by rw [Bool.or_eq_true]; right; exact decide_eq_true e)]; rfl
      · rw [if_neg (fun w => e ((I_eq (by omega) (by omega) (by omega) (by omega)).mp w)), if_neg (by
          rw [Bool.or_eq_true, Bool.and_eq_true]
          rintro (w | w)
          · rw [rt] at w; exact absurd w.1 (by decide)
          · exact e (of_decide_eq_true w))]; rfl
    · rw [if_neg rt, if_pos (show I 0 = (0 : Int32) from rfl), if_pos (by
        rw [Bool.or_eq_true, Bool.and_eq_true]
        left
        refine ⟨?_, decide_eq_true (by omega)⟩
        cases rl
        · rfl
        · exact absurd rfl rt)]
      rfl
/-! the reference's sorts -/
def ltr (s : Int) : Int := if 0 ≤ s then s else -1 - s
theorem m_sort (h : ShtH B D Ou r) (hO : OuRl B sk rl Ou) (hM : MFs B D sk rl τ) {x : Int} (hx : Dmv B D Ou x) (hn : ¬ SNv D x) (hr : x < 1000 ∨ rl = true) : f_X12_sortOf (I x) τ = some (I (ltr (svt B D sk x))) ∧ f_X12_plusOf (I x) τ = some (I (if 0 ≤ svt B D sk x then 1 else 0)) := by
  have b16 := h.1.2.1
  unfold f_X12_sortOf f_X12_plusOf
  rcases hx with q | q | q
  · unfold Agv at q
    have k := h.2.2.1 (x / 5) (by omega) q.2.2.1
    have pb := h.1.2.2.1 _ k.1 k.2
    have d := hM.1.2.2.2 _ _ k.1 k.2 (show 0 ≤ x % 5 by omega) q.2.2.2
    have e3 : svt B D sk x = Bso B (5 * Dak D (x / 5) + x % 5) := if_pos (by omega)
    have m27 := hM.2.2.2.1 (x / 5) (by omega) q.2.2.1
    have na := h.2.1
    have c1 : I x < (1000 : Int32) := (Ilt (1000) (1000) (by omega) (by omega) (by omega) (by omega)).mpr (by omega)
    have e5 : I x / (5 : Int32) = I (x / 5) := I_div (b := 5) (by omega) (by omega) (by omega) (by omega)
    have i2 : inb (I (x / 5)) 200 = true := (I_inb (by omega) (by omega)).mpr ⟨by omega, by omega⟩
    have x2 : ix (I (x / 5)) = (x / 5).toNat := I_ix (by omega) (by omega)
    have e6 : (5 : Int32) * I (Dak D (x / 5)) + (I x - I (x / 5) * (5 : Int32)) = I (5 * Dak D (x / 5) + x % 5) := by rw [show (5 : Int32) = I 5 from rfl, I_mul, I_mul, I_sub, I_add, show 5 * Dak D (x / 5) + (x - x / 5 * 5) = 5 * Dak D (x / 5) + x % 5 by omega]
    have i8 : inb (I (5 * Dak D (x / 5) + x % 5)) 80 = true := (I_inb (by omega) (by omega)).mpr ⟨by omega, by omega⟩
    have x8 : ix (I (5 * Dak D (x / 5) + x % 5)) = (5 * Dak D (x / 5) + x % 5).toNat := I_ix (by omega) (by omega)
    rw [e3]
    refine ⟨?_, ?_⟩
    · rw [if_pos c1, e5, if_pos i2, x2, m27, e6, if_pos i8, x8, d.1]; rfl
    · rw [if_pos c1, e5, if_pos i2, x2, m27, e6, if_pos i8, x8, d.2, if_pos (by split; exact Or.inr rfl; exact Or.inl rfl)]
  · exact absurd q hn
  · have hb := h.2.2.2.2.1 x q
    have rt : rl = true := by
      rcases hr with w | w
      · omega
      · exact w
    have hw := ((hO rt).2 x).mp q
    have k := (hO rt).1 ((x - 1200) / 5) (by omega) (by omega)
    have pb := h.1.2.2.1 _ k.1 k.2
    have d := hM.1.2.2.2 _ _ k.1 k.2 (show 0 ≤ (x - 1200) % 5 by omega) hw.2.2.2
    have e3 : svt B D sk x = -1 - Bso B (5 * sk ((x - 1200) / 5) + (x - 1200) % 5) := if_neg (by omega)
    have m32 := hM.2.2.2.2 rt ((x - 1200) / 5) (by omega) (by omega)
    have c1 : ¬ (I x < (1000 : Int32)) := fun w => by have := (Ilt (1000) (1000) (by omega) (by omega) (by omega) (by omega)).mp w; omega
    have e4 : I x - (1200 : Int32) = I (x - 1200) := by rw [show (1200 : Int32) = I 1200 from rfl, I_sub]
    have e5 : I (x - 1200) / (5 : Int32) = I ((x - 1200) / 5) := I_div (b := 5) (by omega) (by omega) (by omega) (by omega)
    have i2 : inb (I ((x - 1200) / 5)) 2 = true := (I_inb (by omega) (by omega)).mpr ⟨by omega, by omega⟩
    have x2 : ix (I ((x - 1200) / 5)) = ((x - 1200) / 5).toNat := I_ix (by omega) (by omega)
    have e6 : (5 : Int32) * I (sk ((x - 1200) / 5)) + (I (x - 1200) - I ((x - 1200) / 5) * (5 : Int32)) = I (5 * sk ((x - 1200) / 5) + (x - 1200) % 5) := by rw [show (5 : Int32) = I 5 from rfl, I_mul, I_mul, I_sub, I_add, show 5 * sk ((x - 1200) / 5) + (x - 1200 - (x - 1200) / 5 * 5) = 5 * sk ((x - 1200) / 5) + (x - 1200) % 5 by omega]
    have i8 : inb (I (5 * sk ((x - 1200) / 5) + (x - 1200) % 5)) 80 = true := (I_inb (by omega) (by omega)).mpr ⟨by omega, by omega⟩
    have x8 : ix (I (5 * sk ((x - 1200) / 5) + (x - 1200) % 5)) = (5 * sk ((x - 1200) / 5) + (x - 1200) % 5).toNat := I_ix (by omega) (by omega)
    rw [e3]
    generalize Bso B (5 * sk ((x - 1200) / 5) + (x - 1200) % 5) = u at *
    refine ⟨?_, ?_⟩
    · rw [if_neg c1, e4, e5, if_pos i2, x2, m32, e6, if_pos i8, x8, d.1]
      unfold ltr
      by_cases w : 0 ≤ u
      · rw [if_pos w, if_neg (by omega), show -1 - (-1 - u) = u by omega]
      · rw [if_neg w, if_pos (by omega)]
    · rw [if_neg c1, e4, e5, if_pos i2, x2, m32, e6, if_pos i8, x8, d.2]
      by_cases w : 0 ≤ u
      · rw [if_pos w, if_neg (show ¬ (0 ≤ -1 - u) by omega), if_neg (show ¬ (I 1 = (0 : Int32)) by decide)]; rfl
      · rw [if_neg w, if_pos (show 0 ≤ -1 - u by omega), if_pos (show I 0 = (0 : Int32) from rfl)]; rfl
theorem m_fits (h : ShtH B D Ou r) (hF : 10000 ≤ F) (hO : OuRl B sk rl Ou) (hfar : FarH B D Ou r far) (hJ : MJ B D Ou r rl τ) (hMF : MFs B D sk rl τ) {t : Int} (ht : Dmv B D Ou t) (hn : ¬ SNv D t) (hs : t < 1000 ∨ rl = true) {M : Int → Prop} (hM : MkM D τ M) : ∃ g', f_X12_fits F (I t) τ = some (I (if fitt B D sk rl t (far t) = true then 1 else 0), g') ∧ g'.2 = τ.2 ∧ (∀ c, c ≠ 35 → g'.1 c = τ.1 c) ∧ MkM D g' (fun z => M z ∨ Pw D r far t z) := by
  obtain ⟨⟨k, k1, hw⟩, f1, f2, f3, f4⟩ := hfar t ht hn
  obtain ⟨g', a1, a2, a3, a4⟩ := m_fol h hF hJ k1 ht hn hs hw hM
  have a5 : MkM D g' (fun z => M z ∨ Pw D r far t z) := mkm_iff a4 (fun z _ _ => by
    constructor
    · rintro (q | q)
      · exact Or.inl q
      · exact Or.inr ⟨k, hw, q⟩
    · rintro (q | ⟨k', hw', q⟩)
      · exact Or.inl q
      · rw [(way_uniq hw' hw).1] at q; exact Or.inr q)
  refine ⟨g', ?_, a2, a3, a5⟩
  have vb := vok_b (dm_ok h ht)
  have pf := pt_t h f1 f2
  have vbf := vok_b (dm_ok h f1)
  have hMF' : MFs B D sk rl g' := mf_fr hMF (fun c q => a3 c (by omega)) (by rw [a2])
  unfold f_X12_fits
  rw [if_pos ((I_inb (by omega) (by omega)).mpr ⟨by omega, by omega⟩), show ix (I t) = t.toNat from I_ix (by omega) (by omega), a1, Option.bind_some]
  by_cases hx : far t < 1000 ∨ rl = true
  · have ef : frf rl (far t) = far t := by
      unfold frf
      by_cases w : far t < 1000
      · rw [if_pos w]
      · rw [if_neg w, if_pos (by rcases hx with q | q; exact absurd q w; exact q)]
    have s1 := m_sort h hO hMF' f1 f2 hx
    have s2 := m_sort h hO hMF' ht hn hs
    have b1 := so_b h hO f1 f2 hx
    have b2 := so_b h hO ht hn hs
    rw [ef]
    have c0 : (0 : Int32) ≤ I (far t) := (Ile' (0) (0) (by omega) (by omega) (by omega) (by omega)).mpr (by omega)
    rw [if_pos c0, s1.1, Option.bind_some, s2.1, Option.bind_some]
    have hl : ∀ u : Int, ltr u = if 0 ≤ u then u else -1 - u := fun _ => rfl
    have hfit : fitt B D sk rl t (far t) = true ↔ svt B D sk t = -1 - svt B D sk (far t) := by
      unfold fitt
      rw [Bool.or_eq_true, Bool.and_eq_true]
      constructor
      · rintro (w | w)
        · have := of_decide_eq_true w.2
          rcases hx with q | q
          · omega
          · rw [q] at w; exact absurd w.1 (by decide)
        · exact of_decide_eq_true w
      · exact fun w => Or.inr (decide_eq_true w)
    generalize svt B D sk t = u at *
    generalize svt B D sk (far t) = v at *
    by_cases e : ltr v = ltr u
    · rw [if_pos (by rw [e]), s1.2, Option.bind_some, s2.2, Option.bind_some]
      by_cases q : (0 ≤ v ↔ 0 ≤ u)
      · have e1 : (if 0 ≤ v then (1 : Int) else 0) = if 0 ≤ u then 1 else 0 := by
          by_cases w : 0 ≤ v
          · rw [if_pos w, if_pos (q.mp w)]
          · rw [if_neg w, if_neg (fun x => w (q.mpr x))]
        rw [e1, if_pos rfl, if_neg (by
          rw [hfit]
          intro w
          have : 0 ≤ v ↔ 0 ≤ u := q
          omega)]
        rfl
      · have e1 : I (if 0 ≤ v then (1 : Int) else 0) ≠ I (if 0 ≤ u then 1 else 0) := by
          by_cases w : 0 ≤ v
          · rw [if_pos w, if_neg (fun x => q ⟨fun _ => x, fun _ => w⟩)]; decide
          · rw [if_neg w, if_pos (by
              by_cases x : 0 ≤ u
              · exact x
              · exact absurd ⟨fun y => absurd y w, fun y => absurd y x⟩ q)]; decide
        rw [if_neg e1, if_pos (by
          rw [hfit]
          rw [hl, hl] at e
          by_cases w : 0 ≤ v
          · rw [if_pos w, if_neg (fun x => q ⟨fun _ => x, fun _ => w⟩)] at e; omega
          · by_cases x : 0 ≤ u
            · rw [if_neg w, if_pos x] at e; omega
            · exact absurd ⟨fun y => absurd y w, fun y => absurd y x⟩ q)]
        rfl
    · have lb : ∀ w : Int, -26 ≤ w → w < 26 → 0 ≤ ltr w ∧ ltr w < 26 := fun w a b => by
        rw [hl]; split <;> omega
      have l1 := lb v b1.1 b1.2
      have l2 := lb u b2.1 b2.2
      rw [if_neg (fun w => e ((I_eq (by omega) (by omega) (by omega) (by omega)).mp w)), if_neg (by
        rw [hfit]
        intro w
        apply e
        rw [hl, hl, w]
        by_cases x : 0 ≤ v
        · rw [if_pos x, if_neg (by omega)]; omega
        · rw [if_neg x, if_pos (by omega)])]
      rfl
  · have ef : frf rl (far t) = -2 - (pt (far t) - 1720) := by
      unfold frf
      rw [if_neg (fun w => hx (Or.inl w)), if_neg (fun w => hx (Or.inr w))]
    have : 1200 ≤ far t := by
      rcases pf with q | q
      · exact absurd (Or.inl q.1) hx
      · exact q.1
    rw [ef, if_neg (show ¬ ((0 : Int32) ≤ I (-2 - (pt (far t) - 1720))) from fun w => by have := (Ile' (0) (0) (by omega) (by omega) (by omega) (by omega)).mp w; omega), if_pos (by
      unfold fitt
      rw [Bool.or_eq_true, Bool.and_eq_true]
      left
      refine ⟨?_, decide_eq_true this⟩
      cases rl
      · rfl
      · exact absurd (Or.inr rfl) hx)]
    rfl
end FIT
