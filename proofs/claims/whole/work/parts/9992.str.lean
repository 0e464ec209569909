/-! a rule is stored -/
theorem fcd_r {B : BkT} {D : DrT} {Ou : Int → Prop} {r : Int → Int} (h : ShtH B D Ou r) {y : Int} (hy : Dmv B D Ou y) (hn : ¬ SNv D y) (hna : Dna D ≤ 12) : fcd y = encR (if y < 1000 then y else 60 + (y - 1200)) ∧ (if y < 1000 then y else 60 + (y - 1200)) < 70 ∧ 0 ≤ (if y < 1000 then y else 60 + (y - 1200)) := by
  unfold fcd encR
  rcases hy with q | q | q
  · unfold Agv at q
    rw [if_pos q.2.1, if_pos q.2.1, if_pos (by omega)]
    unfold pt
    rw [if_pos q.2.1]
    omega
  · exact absurd q hn
  · have hb := h.2.2.2.2.1 y q
    rw [if_neg (show ¬ (y < 1000) by omega), if_neg (show ¬ (y < 1000) by omega), if_neg (by omega)]
    unfold pt
    rw [if_neg (by omega), if_neg (by omega), show 60 + (y - 1200) - 60 = y - 1200 by omega]
    omega
section STR
variable {B : BkT} {D : DrT} {Ou : Int → Prop} {r far sk : Int → Int} {σ τ : St} {F : Nat} {rn : Int}
theorem c_rhas (r0 : 0 ≤ rn) (r1 : rn < 60) {g : St} (h : g.1 19 7 = I (rn + 1)) : f_X8_has 19 (I rn) g = 1 := by
  unfold f_X8_has
  rw [h, if_pos ⟨(Ile' (0) (0) (by omega) (by omega) (by omega) (by omega)).mpr r0, (I_lt (by omega) (by omega) (by omega) (by omega)).mpr (by omega), (Ilt (60) (60) (by omega) (by omega) (by omega) (by omega)).mpr r1⟩]
theorem c_rsw (r0 : 0 ≤ rn) (r1 : rn < 60) {x : Int} {v : Int32} {g : St} (h : g.1 19 7 = I (rn + 1)) (x0 : 0 ≤ x) (x1 : x < 96) : f_X8_setWire (I rn) (I x) v g = some (seti g 25 (96 * rn + x).toNat v) := by
  have hh := c_rhas r0 r1 h
  have c : (0 : Int32) ≤ I x ∧ I x < (96 : Int32) := ⟨(Ile' (0) (0) (by omega) (by omega) (by omega) (by omega)).mpr x0, (Ilt (96) (96) (by omega) (by omega) (by omega) (by omega)).mpr x1⟩
  have hi : f_X11_isInside (I x) (96 : Int32) = 1 := by
    unfold f_X11_isInside
    rw [if_pos c]
  unfold f_X8_setWire
  rw [hh, Option.bind_some, hi, if_neg (by decide), show I rn * (96 : Int32) + I x = I (96 * rn + x) by rw [show (96 : Int32) = I 96 from rfl, I_mul, I_add, show rn * 96 + x = 96 * rn + x by omega], if_pos ((I_inb (by omega) (by omega)).mpr ⟨by omega, by omega⟩ : inb (I (96 * rn + x)) 5760 = true), show ix (I (96 * rn + x)) = (96 * rn + x).toNat from I_ix (by omega) (by omega), Option.bind_some]
theorem c_rswe (r0 : 0 ≤ rn) (r1 : rn < 60) {e : Int} {v : Int32} {g : St} (h : g.1 19 7 = I (rn + 1)) (x0 : 0 ≤ e) (x1 : e < 8) : f_X8_setWire (I rn) (I (-2 - e)) v g = some (seti g 26 (8 * rn + e).toNat v) := by
  have hh := c_rhas r0 r1 h
  have c : ¬ ((0 : Int32) ≤ I (-2 - e) ∧ I (-2 - e) < (96 : Int32)) := fun q => by have := (Ile' (0) (0) (by omega) (by omega) (by omega) (by omega)).mp q.1; omega
  have hi : f_X11_isInside (I (-2 - e)) (96 : Int32) = 0 := by
    unfold f_X11_isInside
    rw [if_neg c]
  have e1 : f_X11_endOf (I (-2 - e)) = I e := by
    unfold f_X11_endOf
    rw [show (-2 : Int32) = I (-2) from rfl, I_sub, show -2 - (-2 - e) = e by omega]
  have c8 : (0 : Int32) ≤ I e ∧ I e < (8 : Int32) := ⟨(Ile' (0) (0) (by omega) (by omega) (by omega) (by omega)).mpr x0, (Ilt (8) (8) (by omega) (by omega) (by omega) (by omega)).mpr x1⟩
  have hi8 : f_X11_isInside (I e) (8 : Int32) = 1 := by
    unfold f_X11_isInside
    rw [if_pos c8]
  unfold f_X8_setWire
  rw [hh, Option.bind_some, hi, if_pos (Or.inr rfl), Option.bind_some, e1, hi8, if_neg (by decide), Option.bind_some, show I rn * (8 : Int32) + I e = I (8 * rn + e) by rw [show (8 : Int32) = I 8 from rfl, I_mul, I_add, show rn * 8 + e = 8 * rn + e by omega], if_pos ((I_inb (by omega) (by omega)).mpr ⟨by omega, by omega⟩ : inb (I (8 * rn + e)) 480 = true), show ix (I (8 * rn + e)) = (8 * rn + e).toNat from I_ix (by omega) (by omega), Option.bind_some]
theorem c_sr54 (hF : 10000 ≤ F) (h : CH B D Ou r far sk true σ) (n12 : Dna D ≤ 12) (r0 : 0 ≤ rn) (r1 : rn < 60) (h19 : σ.1 19 7 = I (rn + 1)) {M : Int → Prop} (hM : ∀ t z, Agv B D t → Pw D r far t z → M z) {a : Int} (a0 : 0 ≤ a) (a1 : a < Dna D) : ∀ (m : Nat) (p : Int) (g : St), 0 ≤ p → p ≤ Bpt B (Dak D a) → Bpt B (Dak D a) - p < m → g.2 = σ.2 → (∀ c, c ≠ 7 → c ≠ 25 → g.1 c = σ.1 c) → MkC D g M → (∀ j : Int, 0 ≤ j → g.1 25 j.toNat = if 96 * rn + 8 * a ≤ j ∧ j < 96 * rn + 8 * a + p then I (fcd (far (5 * a + (j - 96 * rn - 8 * a)))) else σ.1 25 j.toNat) → ∃ g', f_X6_storeRule_L54 F (I rn) (I a) (I (Bpt B (Dak D a))) m (I p) g = some g' ∧ g'.2 = σ.2 ∧ (∀ c, c ≠ 7 → c ≠ 25 → g'.1 c = σ.1 c) ∧ MkC D g' M ∧ (∀ j : Int, 0 ≤ j → g'.1 25 j.toNat = if 96 * rn + 8 * a ≤ j ∧ j < 96 * rn + 8 * a + Bpt B (Dak D a) then I (fcd (far (5 * a + (j - 96 * rn - 8 * a)))) else σ.1 25 j.toNat) := by
  have hS := h.1
  have k := hS.2.2.1 a a0 a1
  have pb := hS.1.2.2.1 _ k.1 k.2
  intro m
  induction m with
  | zero => intro p g h0 h1 h2; omega
  | succ m ih =>
    intro p g h0 h1 h2 g2 gc gm gw
    rw [f_X6_storeRule_L54]
    by_cases hp : p = Bpt B (Dak D a)
    · rw [if_neg (by rw [hp]; exact Int32.lt_irrefl)]
      exact ⟨g, rfl, g2, gc, gm, by rw [← hp]; exact gw⟩
    · have hg : CH B D Ou r far sk true g := ch_fr h (fun c q => gc c (by omega) (by omega)) (by rw [g2])
      have ap := agp (sk := sk) hS a0 a1 h0 (show p < Bpt B (Dak D a) by omega)
      obtain ⟨g1, b1, b2, b3⟩ := c_far1 hF hg (Or.inl ap.1) (ag_n ap.1) gm
      have epc : f_X11_portCode (I a) (I p) = I (pt (5 * a + p)) := by
        unfold f_X11_portCode
        rw [show (8 : Int32) = I 8 from rfl, I_mul, I_add, ap.2.2.1]
      have esw := c_rsw r0 r1 (x := 8 * a + p) (v := I (fcd (far (5 * a + p)))) (g := g1) (by rw [b2.2 19 (by omega), gc 19 (by omega) (by omega)]; exact h19) (by omega) (by omega)
      rw [if_pos ((I_lt (by omega) (by omega) (by omega) (by omega)).mpr (by omega)), epc, Option.bind_some, Option.bind_some, b1, Option.bind_some, ap.2.2.1, esw, Option.bind_some, show I p + (1 : Int32) = I (p + 1) by rw [show (1 : Int32) = I 1 from rfl, I_add]]
      refine ih (p + 1) _ (by omega) (by omega) (by omega) (by rw [seti2, b2.1, g2]) (fun c x y => by rw [seti_r y, b2.2 c x, gc c x y]) ?_ (fun j j0 => ?_)
      · have := mkc_sub b3 (hM _ · ap.1)
        intro v v0 v1
        rw [seti_r (by omega)]
        exact this v v0 v1
      · rw [seti1, b2.2 25 (by omega)]
        by_cases e : j = 96 * rn + (8 * a + p)
        · rw [if_pos ⟨rfl, by rw [e]⟩, if_pos (by omega), show 5 * a + (j - 96 * rn - 8 * a) = 5 * a + p by omega]
        · rw [if_neg (by omega), gw j j0]
          by_cases e2 : 96 * rn + 8 * a ≤ j ∧ j < 96 * rn + 8 * a + p
          · rw [if_pos e2, if_pos (by omega)]
          · rw [if_neg e2, if_neg (by omega)]
def SrI (B : BkT) (D : DrT) (far : Int → Int) (rn : Int) (σ : St) (M : Int → Prop) (a : Int) (g : St) : Prop := (∀ c, c ≠ 7 → c ≠ 22 → c ≠ 24 → c ≠ 25 → g.1 c = σ.1 c) ∧ g.2 = σ.2 ∧ (∀ q : Int, 0 ≤ q → q ≠ rn → g.1 22 q.toNat = σ.1 22 q.toNat) ∧ g.1 22 rn.toNat = I a ∧ (∀ j : Int, 0 ≤ j → g.1 24 j.toNat = if 12 * rn ≤ j ∧ j < 12 * rn + a then I (Dak D (j - 12 * rn)) else σ.1 24 j.toNat) ∧ (∀ j : Int, 0 ≤ j → j < 96 * rn → g.1 25 j.toNat = σ.1 25 j.toNat) ∧ (∀ a' p, 0 ≤ a' → a' < a → 0 ≤ p → p < Bpt B (Dak D a') → g.1 25 (96 * rn + (8 * a' + p)).toNat = I (fcd (far (5 * a' + p)))) ∧ MkC D g M
theorem c_sr2 (hF : 10000 ≤ F) (h : CH B D Ou r far sk true σ) (n12 : Dna D ≤ 12) (r0 : 0 ≤ rn) (r1 : rn < 60) (h19 : σ.1 19 7 = I (rn + 1)) {M : Int → Prop} (hM : ∀ t z, Agv B D t → Pw D r far t z → M z) : ∀ (m : Nat) (a : Int) (g : St), 0 ≤ a → a ≤ Dna D → Dna D - a < m → SrI B D far rn σ M a g → ∃ g', f_X6_storeRule_L2 F (I rn) m (I a) g = some g' ∧ SrI B D far rn σ M (Dna D) g' := by
  have hS := h.1
  intro m
  induction m with
  | zero => intro a g h0 h1 h2; omega
  | succ m ih =>
    intro a g h0 h1 h2 hI
    have hI0 := hI
    obtain ⟨i1, i2, i3, i4, i5, i6, i7, i8⟩ := hI
    have hg : CH B D Ou r far sk true g := ch_fr h (fun c q => i1 c (by omega) (by omega) (by omega) (by omega)) (by rw [i2])
    rw [f_X6_storeRule_L2, hg.2.2.2.2.2.1]
    by_cases ha : a = Dna D
    · rw [if_neg (by rw [ha]; exact Int32.lt_irrefl)]
      exact ⟨g, rfl, by rw [← ha]; exact hI0⟩
    · have k := hS.2.2.1 a h0 (by omega)
      have pb := hS.1.2.2.1 _ k.1 k.2
      have g19 : g.1 19 7 = I (rn + 1) := by rw [i1 19 (by omega) (by omega) (by omega) (by omega)]; exact h19
      have i60 : inb (I rn) 60 = true := (I_inb (by omega) (by omega)).mpr ⟨by omega, by omega⟩
      have x60 : ix (I rn) = rn.toNat := I_ix (by omega) (by omega)
      have e12 : I rn * (12 : Int32) + I a = I (12 * rn + a) := by rw [show (12 : Int32) = I 12 from rfl, I_mul, I_add, show rn * 12 + a = 12 * rn + a by omega]
      have i72 : inb (I (12 * rn + a)) 720 = true := (I_inb (by omega) (by omega)).mpr ⟨by omega, by omega⟩
      have x72 : ix (I (12 * rn + a)) = (12 * rn + a).toNat := I_ix (by omega) (by omega)
      have s22 : (seti g 24 (12 * rn + a).toNat (I (Dak D a))).1 22 rn.toNat = I a := by rw [seti_r (by omega)]; exact i4
      have cadd : f_X8_addAgent (I rn) (I (Dak D a)) g = some (seti (seti g 24 (12 * rn + a).toNat (I (Dak D a))) 22 rn.toNat (I (a + 1))) := by
        unfold f_X8_addAgent
        rw [c_rhas r0 r1 g19, Option.bind_some, if_neg (show ¬ ((1 : Int32) = 0) by decide), if_pos i60, x60, i4, if_pos ((Ilt (12) (12) (by omega) (by omega) (by omega) (by omega)).mpr (by omega)), if_pos i60, e12, if_pos i72, x72, Option.bind_some, if_pos i60, if_pos i60, s22, show I a + (1 : Int32) = I (a + 1) by rw [show (1 : Int32) = I 1 from rfl, I_add], Option.bind_some]
      obtain ⟨gA, egA⟩ : ∃ gA, gA = seti (seti g 24 (12 * rn + a).toNat (I (Dak D a))) 22 rn.toNat (I (a + 1)) := ⟨_, rfl⟩
      rw [← egA] at cadd
      have frA : ∀ c, c ≠ 22 → c ≠ 24 → gA.1 c = g.1 c := fun c x y => by rw [egA, seti_r x, seti_r y]
      have hgA : CH B D Ou r far sk true gA := ch_fr hg (fun c q => frA c (by omega) (by omega)) (by rw [egA]; rfl)
      have hgm : MkC D gA M := fun v v0 v1 => by rw [frA 7 (by omega) (by omega)]; exact i8 v v0 v1
      obtain ⟨g', b1, b2, b3, b4, b5⟩ := c_sr54 hF hgA n12 r0 r1 (by rw [frA 19 (by omega) (by omega)]; exact g19) hM h0 (show a < Dna D by omega) F 0 gA (by omega) (by omega) (by omega) rfl (fun _ _ _ => rfl) hgm (fun j j0 => by rw [if_neg (by omega)])
      rw [if_pos ((I_lt (by omega) (by omega) (by omega) (by omega)).mpr (by omega)), c_kindOfD hS hg.2.2.2.2 h0 (by omega), Option.bind_some, cadd, Option.bind_some, c_kindOfD hS hgA.2.2.2.2 h0 (by omega), Option.bind_some, c_ports hS.1 hgA.2.2.2.2.1 k.1 k.2, Option.bind_some, show f_X6_storeRule_L54 F (I rn) (I a) (I (Bpt B (Dak D a))) F (0 : Int32) gA = _ from b1, Option.bind_some, show I a + (1 : Int32) = I (a + 1) by rw [show (1 : Int32) = I 1 from rfl, I_add]]
      refine ih (a + 1) g' (by omega) (by omega) (by omega) ⟨fun c x y z w => ?_, ?_, fun q x y => ?_, ?_, fun j x => ?_, fun j x y => ?_, fun a' p x y z w => ?_, b4⟩
      · rw [b3 c x w, frA c y z]; exact i1 c x y z w
      · rw [b2, egA]; exact i2
      · rw [b3 22 (by omega) (by omega), egA, seti1, if_neg (by omega), seti_r (by omega)]; exact i3 q x y
      · rw [b3 22 (by omega) (by omega), egA, seti1, if_pos ⟨rfl, rfl⟩]
      · rw [b3 24 (by omega) (by omega), egA, seti_r (by omega), seti1]
        by_cases e : j = 12 * rn + a
        · rw [if_pos ⟨rfl, by rw [e]⟩, if_pos (by omega), show j - 12 * rn = a by omega]
        · rw [if_neg (by omega), i5 j x]
          by_cases e2 : 12 * rn ≤ j ∧ j < 12 * rn + a
          · rw [if_pos e2, if_pos (by omega)]
          · rw [if_neg e2, if_neg (by omega)]
      · rw [b5 j x, if_neg (by omega), frA 25 (by omega) (by omega)]; exact i6 j x y
      · have k' := hS.2.2.1 a' x (by omega)
        have pb' := hS.1.2.2.1 _ k'.1 k'.2
        rw [b5 (96 * rn + (8 * a' + p)) (by omega)]
        by_cases e : a' = a
        · subst e
          rw [if_pos (by omega), show 5 * a' + (96 * rn + (8 * a' + p) - 96 * rn - 8 * a') = 5 * a' + p by omega]
        · rw [if_neg (by omega), frA 25 (by omega) (by omega)]
          exact i7 a' p x (by omega) z w
theorem c_sr104 (hF : 10000 ≤ F) (h : CH B D Ou r far sk true σ) (r0 : 0 ≤ rn) (r1 : rn < 60) (h19 : σ.1 19 7 = I (rn + 1)) {M : Int → Prop} (hM : ∀ t z, Ou t → Pw D r far t z → M z) : ∀ (m : Nat) (v : Int) (g : St), 0 ≤ v → v ≤ 8 → 8 - v < m → g.2 = σ.2 → (∀ c, c ≠ 7 → c ≠ 26 → g.1 c = σ.1 c) → MkC D g M → (∀ j : Int, 0 ≤ j → j < 8 * rn → g.1 26 j.toNat = σ.1 26 j.toNat) → (∀ u, 0 ≤ u → u < v → Ou (slv u) → g.1 26 (8 * rn + u).toNat = I (fcd (far (slv u)))) → ∃ g', f_X6_storeRule_L104 F (I rn) m (I v) g = some g' ∧ g'.2 = σ.2 ∧ (∀ c, c ≠ 7 → c ≠ 26 → g'.1 c = σ.1 c) ∧ MkC D g' M ∧ (∀ j : Int, 0 ≤ j → j < 8 * rn → g'.1 26 j.toNat = σ.1 26 j.toNat) ∧ (∀ u, 0 ≤ u → u < 8 → Ou (slv u) → g'.1 26 (8 * rn + u).toNat = I (fcd (far (slv u)))) := by
  have hS := h.1
  intro m
  induction m with
  | zero => intro v g h0 h1 h2; omega
  | succ m ih =>
    intro v g h0 h1 h2 g2 gc gm gl gw
    rw [f_X6_storeRule_L104]
    by_cases hv : v = 8
    · rw [if_neg (by rw [hv]; exact Int32.lt_irrefl)]
      exact ⟨g, rfl, g2, gc, gm, gl, fun u x y z => gw u x (by omega) z⟩
    · have hg : CH B D Ou r far sk true g := ch_fr h (fun c q => gc c (by omega) (by omega)) (by rw [g2])
      have hs := c_hasSlot hg rfl h0 (show v < 8 by omega)
      have ev : I v + (1 : Int32) = I (v + 1) := by rw [show (1 : Int32) = I 1 from rfl, I_add]
      rw [if_pos ((Ilt (8) (8) (by omega) (by omega) (by omega) (by omega)).mpr (by omega)), ev]
      by_cases ho : Ou (slv v)
      · obtain ⟨g1, b1, b2, b3⟩ := c_far1 hF hg (Or.inr (Or.inr ho)) (ou_n hS ho) gm
        have esw := c_rswe r0 r1 (e := v) (v := I (fcd (far (slv v)))) (g := g1) (by rw [b2.2 19 (by omega), gc 19 (by omega) (by omega)]; exact h19) h0 (by omega)
        unfold f_X11_endCode
        rw [hs.1 ho, Option.bind_some, if_neg (show ¬ (I 1 = (0 : Int32)) by decide), Option.bind_some, c_outp h0 (by omega), Option.bind_some, b1, Option.bind_some, show (-2 : Int32) - I v = I (-2 - v) by rw [show (-2 : Int32) = I (-2) from rfl, I_sub], esw, Option.bind_some, Option.bind_some]
        refine ih (v + 1) _ (by omega) (by omega) (by omega) (by rw [seti2, b2.1, g2]) (fun c x y => by rw [seti_r y, b2.2 c x, gc c x y]) ?_ (fun j x y => ?_) (fun u x y z => ?_)
        · have := mkc_sub b3 (hM _ · ho)
          intro w v0 v1
          rw [seti_r (by omega)]
          exact this w v0 v1
        · rw [seti1, if_neg (by omega), b2.2 26 (by omega)]; exact gl j x y
        · rw [seti1]
          by_cases e : u = v
          · rw [if_pos ⟨rfl, by rw [e]⟩, e]
          · rw [if_neg (by omega), b2.2 26 (by omega)]; exact gw u x (by omega) z
      · rw [hs.2 ho, Option.bind_some, if_pos (show I 0 = (0 : Int32) from rfl), Option.bind_some]
        exact ih (v + 1) g (by omega) (by omega) (by omega) g2 gc gm gl (fun u x y z => by
          by_cases e : u = v
          · rw [e] at z; exact absurd z ho
          · exact gw u x (by omega) z)
/-! the reference -/
def tol (y : Int) : Int := if y < 1000 then y else 60 + (y - 1200)
theorem m_told {y : Int} (h0 : 0 ≤ y) (h1 : y < 2000) : f_X12_told (I y) = I (tol y) := by
  unfold f_X12_told tol
  by_cases e : y < 1000
  · rw [if_pos ((Ilt (1000) (1000) (by omega) (by omega) (by omega) (by omega)).mpr e), if_pos e]
  · rw [if_neg (fun q => e ((Ilt (1000) (1000) (by omega) (by omega) (by omega) (by omega)).mp q)), if_neg e, show (60 : Int32) = I 60 from rfl, show (1200 : Int32) = I 1200 from rfl, I_add, I_sub, show 60 + y - 1200 = 60 + (y - 1200) by omega]
theorem frf_t (y : Int) : frf true y = y := by
  unfold frf
  split
  · rfl
  · rfl
theorem m_sr323 (hF : 10000 ≤ F) (h : MH B D Ou r far sk true τ) (n12 : Dna D ≤ 12) (r0 : 0 ≤ rn) (r1 : rn < 60) {M : Int → Prop} (hM : ∀ t z, Agv B D t → Pw D r far t z → M z) {a : Int} (a0 : 0 ≤ a) (a1 : a < Dna D) : ∀ (m : Nat) (p : Int) (g : St), 0 ≤ p → p ≤ Bpt B (Dak D a) → Bpt B (Dak D a) - p < m → g.2 = τ.2 → (∀ c, c ≠ 35 → c ≠ 25 → g.1 c = τ.1 c) → MkM D g M → (∀ j : Int, 0 ≤ j → g.1 25 j.toNat = if 70 * rn + 5 * a ≤ j ∧ j < 70 * rn + 5 * a + p then I (tol (far (j - 70 * rn))) else τ.1 25 j.toNat) → ∃ g', f_X12_readRule_L323 F (I rn) (I a) m (I p) g = some g' ∧ g'.2 = τ.2 ∧ (∀ c, c ≠ 35 → c ≠ 25 → g'.1 c = τ.1 c) ∧ MkM D g' M ∧ (∀ j : Int, 0 ≤ j → g'.1 25 j.toNat = if 70 * rn + 5 * a ≤ j ∧ j < 70 * rn + 5 * a + Bpt B (Dak D a) then I (tol (far (j - 70 * rn))) else τ.1 25 j.toNat) := by
  have hS := h.1
  have k := hS.2.2.1 a a0 a1
  have pb := hS.1.2.2.1 _ k.1 k.2
  have b16 := hS.1.2.1
  intro m
  induction m with
  | zero => intro p g h0 h1 h2; omega
  | succ m ih =>
    intro p g h0 h1 h2 g2 gc gm gw
    have hg : MH B D Ou r far sk true g := mh_fr h (fun c q => gc c (by omega) (by omega)) (by rw [g2])
    have m27 := hg.2.2.2.2.2.2.2.1 a a0 a1
    have m18 := hg.2.2.2.2.1.2.2.1 _ k.1 k.2
    rw [f_X12_readRule_L323, if_pos ((I_inb (by omega) (by omega)).mpr ⟨by omega, by omega⟩ : inb (I a) 200 = true), show ix (I a) = a.toNat from I_ix (by omega) (by omega), m27, if_pos ((I_inb (by omega) (by omega)).mpr ⟨by omega, by omega⟩ : inb (I (Dak D a)) 16 = true), show ix (I (Dak D a)) = (Dak D a).toNat from I_ix (by omega) (by omega), m18]
    by_cases hp : p = Bpt B (Dak D a)
    · rw [if_neg (by rw [hp]; exact Int32.lt_irrefl)]
      exact ⟨g, rfl, g2, gc, gm, by rw [← hp]; exact gw⟩
    · have ap := agp (sk := sk) hS a0 a1 h0 (show p < Bpt B (Dak D a) by omega)
      obtain ⟨g1, b1, b2, b3⟩ := m_fol1 hF hg (Or.inl ap.1) (ag_n ap.1) (Or.inl (by omega)) gm
      have fd := h.2.2.1 _ (Or.inl ap.1) (ag_n ap.1)
      have vb := vok_b (dm_ok hS fd.2.1)
      have e5 : (5 : Int32) * I a + I p = I (5 * a + p) := by rw [show (5 : Int32) = I 5 from rfl, I_mul, I_add]
      have e70 : (70 : Int32) * I rn + (5 : Int32) * I a + I p = I (70 * rn + 5 * a + p) := by rw [show (70 : Int32) = I 70 from rfl, show (5 : Int32) = I 5 from rfl, I_mul, I_mul, I_add, I_add]
      rw [if_pos ((I_lt (by omega) (by omega) (by omega) (by omega)).mpr (by omega)), e5, if_pos ((I_inb (by omega) (by omega)).mpr ⟨by omega, by omega⟩ : inb (I (5 * a + p)) 1211 = true), show ix (I (5 * a + p)) = (5 * a + p).toNat from I_ix (by omega) (by omega), b1, Option.bind_some, frf_t, m_told vb.1 (by omega), Option.bind_some, e70, if_pos ((I_inb (by omega) (by omega)).mpr ⟨by omega, by omega⟩ : inb (I (70 * rn + 5 * a + p)) 4200 = true), show ix (I (70 * rn + 5 * a + p)) = (70 * rn + 5 * a + p).toNat from I_ix (by omega) (by omega), Option.bind_some, show I p + (1 : Int32) = I (p + 1) by rw [show (1 : Int32) = I 1 from rfl, I_add]]
      refine ih (p + 1) _ (by omega) (by omega) (by omega) (by rw [seti2, b2.1, g2]) (fun c x y => by rw [seti_r y, b2.2 c x, gc c x y]) ?_ (fun j j0 => ?_)
      · have := mkm_sub b3 (hM _ · ap.1)
        intro v v0 v1
        rw [seti_r (by omega)]
        exact this v v0 v1
      · rw [seti1, b2.2 25 (by omega)]
        by_cases e : j = 70 * rn + 5 * a + p
        · rw [if_pos ⟨rfl, by rw [e]⟩, if_pos (by omega), show j - 70 * rn = 5 * a + p by omega]
        · rw [if_neg (by omega), gw j j0]
          by_cases e2 : 70 * rn + 5 * a ≤ j ∧ j < 70 * rn + 5 * a + p
          · rw [if_pos e2, if_pos (by omega)]
          · rw [if_neg e2, if_neg (by omega)]
theorem m_sr291 (hF : 10000 ≤ F) (h : MH B D Ou r far sk true τ) (n12 : Dna D ≤ 12) (r0 : 0 ≤ rn) (r1 : rn < 60) {M : Int → Prop} (hM : ∀ t z, Agv B D t → Pw D r far t z → M z) : ∀ (m : Nat) (a : Int) (g : St), 0 ≤ a → a ≤ Dna D → Dna D - a < m → g.2 = τ.2 → (∀ c, c ≠ 35 → c ≠ 24 → c ≠ 25 → g.1 c = τ.1 c) → MkM D g M → (∀ j : Int, 0 ≤ j → g.1 24 j.toNat = if 12 * rn ≤ j ∧ j < 12 * rn + a then I (Dak D (j - 12 * rn)) else τ.1 24 j.toNat) → (∀ j : Int, 0 ≤ j → j < 70 * rn → g.1 25 j.toNat = τ.1 25 j.toNat) → (∀ t, Agv B D t → t < 5 * a → g.1 25 (70 * rn + t).toNat = I (tol (far t))) → ∃ g', f_X12_readRule_L291 F (I rn) m (I a) g = some g' ∧ g'.2 = τ.2 ∧ (∀ c, c ≠ 35 → c ≠ 24 → c ≠ 25 → g'.1 c = τ.1 c) ∧ MkM D g' M ∧ (∀ j : Int, 0 ≤ j → g'.1 24 j.toNat = if 12 * rn ≤ j ∧ j < 12 * rn + Dna D then I (Dak D (j - 12 * rn)) else τ.1 24 j.toNat) ∧ (∀ j : Int, 0 ≤ j → j < 70 * rn → g'.1 25 j.toNat = τ.1 25 j.toNat) ∧ (∀ t, Agv B D t → g'.1 25 (70 * rn + t).toNat = I (tol (far t))) := by
  have hS := h.1
  intro m
  induction m with
  | zero => intro a g h0 h1 h2; omega
  | succ m ih =>
    intro a g h0 h1 h2 g2 gc gm gk gl gw
    have hg : MH B D Ou r far sk true g := mh_fr h (fun c q => gc c (by omega) (by omega) (by omega)) (by rw [g2])
    rw [f_X12_readRule_L291, hg.2.2.2.2.2.1]
    by_cases ha : a = Dna D
    · rw [if_neg (by rw [ha]; exact Int32.lt_irrefl)]
      exact ⟨g, rfl, g2, gc, gm, by rw [← ha]; exact gk, gl, fun t q => gw t q (by have := q.2.2.1; omega)⟩
    · have k := hS.2.2.1 a h0 (by omega)
      have pb := hS.1.2.2.1 _ k.1 k.2
      have m27 := hg.2.2.2.2.2.2.2.1 a h0 (by omega)
      have i2 : inb (I a) 200 = true := (I_inb (by omega) (by omega)).mpr ⟨by omega, by omega⟩
      have x2 : ix (I a) = a.toNat := I_ix (by omega) (by omega)
      have e12 : (12 : Int32) * I rn + I a = I (12 * rn + a) := by rw [show (12 : Int32) = I 12 from rfl, I_mul, I_add]
      have i72 : inb (I (12 * rn + a)) 720 = true := (I_inb (by omega) (by omega)).mpr ⟨by omega, by omega⟩
      have x72 : ix (I (12 * rn + a)) = (12 * rn + a).toNat := I_ix (by omega) (by omega)
      have hg1 : MH B D Ou r far sk true (seti g 24 (12 * rn + a).toNat (I (Dak D a))) := mh_fr hg (fun c q => seti_r (by omega)) rfl
      obtain ⟨g', b1, b2, b3, b4, b5⟩ := m_sr323 hF hg1 n12 r0 r1 hM h0 (show a < Dna D by omega) F 0 _ (by omega) (by omega) (by omega) rfl (fun _ _ _ => rfl) (fun v v0 v1 => by rw [seti_r (by omega)]; exact gm v v0 v1) (fun j j0 => by rw [if_neg (by omega)])
      rw [if_pos ((I_lt (by omega) (by omega) (by omega) (by omega)).mpr (by omega)), if_pos i2, x2, e12, if_pos i72, x72, m27, Option.bind_some, show f_X12_readRule_L323 F (I rn) (I a) F (0 : Int32) _ = _ from b1, Option.bind_some, show I a + (1 : Int32) = I (a + 1) by rw [show (1 : Int32) = I 1 from rfl, I_add]]
      refine ih (a + 1) g' (by omega) (by omega) (by omega) (by rw [b2]; exact g2) (fun c x y z => by rw [b3 c x z, seti_r y]; exact gc c x y z) b4 (fun j x => ?_) (fun j x y => ?_) (fun t q w => ?_)
      · rw [b3 24 (by omega) (by omega), seti1]
        by_cases e : j = 12 * rn + a
        · rw [if_pos ⟨rfl, by rw [e]⟩, if_pos (by omega), show j - 12 * rn = a by omega]
        · rw [if_neg (by omega), gk j x]
          by_cases e2 : 12 * rn ≤ j ∧ j < 12 * rn + a
          · rw [if_pos e2, if_pos (by omega)]
          · rw [if_neg e2, if_neg (by omega)]
      · rw [b5 j x, if_neg (by omega), seti_r (by omega)]; exact gl j x y
      · have q0 := q.1
        rw [b5 (70 * rn + t) (by omega)]
        by_cases e : 5 * a ≤ t
        · have e1 : t / 5 = a := by omega
          have := q.2.2.2
          rw [e1] at this
          rw [if_pos (by omega), show 70 * rn + t - 70 * rn = t by omega]
        · rw [if_neg (by omega), seti_r (by omega)]
          exact gw t q (by omega)
theorem m_sr401 (hF : 10000 ≤ F) (h : MH B D Ou r far sk true τ) (r0 : 0 ≤ rn) (r1 : rn < 60) {M : Int → Prop} (hM : ∀ t z, Ou t → Pw D r far t z → M z) {s : Int} (s0 : 0 ≤ s) (s1 : s ≤ 1) : ∀ (m : Nat) (p : Int) (g : St), 1 ≤ p → p ≤ Bpt B (sk s) → Bpt B (sk s) - p < m → g.2 = τ.2 → (∀ c, c ≠ 35 → c ≠ 25 → g.1 c = τ.1 c) → MkM D g M → (∀ j : Int, 0 ≤ j → g.1 25 j.toNat = if 70 * rn + 60 + 5 * s + 1 ≤ j ∧ j < 70 * rn + 60 + 5 * s + p then I (tol (far (j - 70 * rn - 60 + 1200))) else τ.1 25 j.toNat) → ∃ g', f_X12_readRule_L401 F (I rn) (I s) m (I p) g = some g' ∧ g'.2 = τ.2 ∧ (∀ c, c ≠ 35 → c ≠ 25 → g'.1 c = τ.1 c) ∧ MkM D g' M ∧ (∀ j : Int, 0 ≤ j → g'.1 25 j.toNat = if 70 * rn + 60 + 5 * s + 1 ≤ j ∧ j < 70 * rn + 60 + 5 * s + Bpt B (sk s) then I (tol (far (j - 70 * rn - 60 + 1200))) else τ.1 25 j.toNat) := by
  have hS := h.1
  have hO := h.2.1 rfl
  have k := hO.1 s s0 s1
  have pb := hS.1.2.2.1 _ k.1 k.2
  have b16 := hS.1.2.1
  intro m
  induction m with
  | zero => intro p g h0 h1 h2; omega
  | succ m ih =>
    intro p g h0 h1 h2 g2 gc gm gw
    have hg : MH B D Ou r far sk true g := mh_fr h (fun c q => gc c (by omega) (by omega)) (by rw [g2])
    have m32 := hg.2.2.2.2.2.2.2.2 rfl s s0 s1
    have m18 := hg.2.2.2.2.1.2.2.1 _ k.1 k.2
    rw [f_X12_readRule_L401, if_pos ((I_inb (by omega) (by omega)).mpr ⟨by omega, by omega⟩ : inb (I s) 2 = true), show ix (I s) = s.toNat from I_ix (by omega) (by omega), m32, if_pos ((I_inb (by omega) (by omega)).mpr ⟨by omega, by omega⟩ : inb (I (sk s)) 16 = true), show ix (I (sk s)) = (sk s).toNat from I_ix (by omega) (by omega), m18]
    by_cases hp : p = Bpt B (sk s)
    · rw [if_neg (by rw [hp]; exact Int32.lt_irrefl)]
      exact ⟨g, rfl, g2, gc, gm, by rw [← hp]; exact gw⟩
    · have ho : Ou (1200 + 5 * s + p) := (hO.2 _).mpr ⟨by omega, by omega, by omega, by rw [show (1200 + 5 * s + p - 1200) / 5 = s by omega]; omega⟩
      obtain ⟨g1, b1, b2, b3⟩ := m_fol1 hF hg (Or.inr (Or.inr ho)) (ou_n hS ho) (Or.inr rfl) gm
      have fd := h.2.2.1 _ (Or.inr (Or.inr ho)) (ou_n hS ho)
      have vb := vok_b (dm_ok hS fd.2.1)
      have e5 : (1200 : Int32) + (5 : Int32) * I s + I p = I (1200 + 5 * s + p) := by rw [show (5 : Int32) = I 5 from rfl, show (1200 : Int32) = I 1200 from rfl, I_mul, I_add, I_add]
      have e70 : (70 : Int32) * I rn + (60 : Int32) + (5 : Int32) * I s + I p = I (70 * rn + 60 + 5 * s + p) := by rw [show (70 : Int32) = I 70 from rfl, show (60 : Int32) = I 60 from rfl, show (5 : Int32) = I 5 from rfl, I_mul, I_mul, I_add, I_add, I_add]
      rw [if_pos ((I_lt (by omega) (by omega) (by omega) (by omega)).mpr (by omega)), e5, if_pos ((I_inb (by omega) (by omega)).mpr ⟨by omega, by omega⟩ : inb (I (1200 + 5 * s + p)) 1211 = true), show ix (I (1200 + 5 * s + p)) = (1200 + 5 * s + p).toNat from I_ix (by omega) (by omega), b1, Option.bind_some, frf_t, m_told vb.1 (by omega), Option.bind_some, e70, if_pos ((I_inb (by omega) (by omega)).mpr ⟨by omega, by omega⟩ : inb (I (70 * rn + 60 + 5 * s + p)) 4200 = true), show ix (I (70 * rn + 60 + 5 * s + p)) = (70 * rn + 60 + 5 * s + p).toNat from I_ix (by omega) (by omega), Option.bind_some, show I p + (1 : Int32) = I (p + 1) by rw [show (1 : Int32) = I 1 from rfl, I_add]]
      refine ih (p + 1) _ (by omega) (by omega) (by omega) (by rw [seti2, b2.1, g2]) (fun c x y => by rw [seti_r y, b2.2 c x, gc c x y]) ?_ (fun j j0 => ?_)
      · have := mkm_sub b3 (hM _ · ho)
        intro v v0 v1
        rw [seti_r (by omega)]
        exact this v v0 v1
      · rw [seti1, b2.2 25 (by omega)]
        by_cases e : j = 70 * rn + 60 + 5 * s + p
        · rw [if_pos ⟨rfl, by rw [e]⟩, if_pos (by omega), show j - 70 * rn - 60 + 1200 = 1200 + 5 * s + p by omega]
        · rw [if_neg (by omega), gw j j0]
          by_cases e2 : 70 * rn + 60 + 5 * s + 1 ≤ j ∧ j < 70 * rn + 60 + 5 * s + p
          · rw [if_pos e2, if_pos (by omega)]
          · rw [if_neg e2, if_neg (by omega)]
theorem m_sr392 (hF : 10000 ≤ F) (h : MH B D Ou r far sk true τ) (r0 : 0 ≤ rn) (r1 : rn < 60) {M : Int → Prop} (hM : ∀ t z, Ou t → Pw D r far t z → M z) : ∀ (m : Nat) (s : Int) (g : St), 0 ≤ s → s ≤ 2 → 2 - s < m → g.2 = τ.2 → (∀ c, c ≠ 35 → c ≠ 25 → g.1 c = τ.1 c) → MkM D g M → (∀ j : Int, 0 ≤ j → j < 70 * rn + 60 → g.1 25 j.toNat = τ.1 25 j.toNat) → (∀ t, Ou t → t < 1200 + 5 * s → g.1 25 (70 * rn + 60 + (t - 1200)).toNat = I (tol (far t))) → ∃ g', f_X12_readRule_L392 F (I rn) m (I s) g = some g' ∧ g'.2 = τ.2 ∧ (∀ c, c ≠ 35 → c ≠ 25 → g'.1 c = τ.1 c) ∧ MkM D g' M ∧ (∀ j : Int, 0 ≤ j → j < 70 * rn + 60 → g'.1 25 j.toNat = τ.1 25 j.toNat) ∧ (∀ t, Ou t → g'.1 25 (70 * rn + 60 + (t - 1200)).toNat = I (tol (far t))) := by
  have hS := h.1
  have hO := h.2.1 rfl
  intro m
  induction m with
  | zero => intro s g h0 h1 h2; omega
  | succ m ih =>
    intro s g h0 h1 h2 g2 gc gm gl gw
    have hg : MH B D Ou r far sk true g := mh_fr h (fun c q => gc c (by omega) (by omega)) (by rw [g2])
    rw [f_X12_readRule_L392]
    by_cases ha : s = 2
    · rw [if_neg (by rw [ha]; exact Int32.lt_irrefl)]
      exact ⟨g, rfl, g2, gc, gm, gl, fun t q => gw t q (by have := hS.2.2.2.2.1 t q; omega)⟩
    · have k := hO.1 s h0 (by omega)
      have pb := hS.1.2.2.1 _ k.1 k.2
      obtain ⟨g', b1, b2, b3, b4, b5⟩ := m_sr401 hF hg r0 r1 hM h0 (show s ≤ 1 by omega) F 1 g (by omega) (by omega) (by omega) rfl (fun _ _ _ => rfl) gm (fun j j0 => by rw [if_neg (by omega)])
      rw [if_pos ((Ilt (2) (2) (by omega) (by omega) (by omega) (by omega)).mpr (by omega)), show f_X12_readRule_L401 F (I rn) (I s) F (1 : Int32) g = _ from b1, Option.bind_some, show I s + (1 : Int32) = I (s + 1) by rw [show (1 : Int32) = I 1 from rfl, I_add]]
      refine ih (s + 1) g' (by omega) (by omega) (by omega) (by rw [b2]; exact g2) (fun c x y => by rw [b3 c x y]; exact gc c x y) b4 (fun j x y => ?_) (fun t q w => ?_)
      · rw [b5 j x, if_neg (by omega)]; exact gl j x y
      · have hb := hS.2.2.2.2.1 t q
        rw [b5 (70 * rn + 60 + (t - 1200)) (by omega)]
        by_cases e : 1200 + 5 * s ≤ t
        · have e1 : (t - 1200) / 5 = s := by omega
          have := ((hO.2 t).mp q).2.2.2
          rw [e1] at this
          rw [if_pos (by omega), show 70 * rn + 60 + (t - 1200) - 70 * rn - 60 + 1200 = t by omega]
        · rw [if_neg (by omega)]
          exact gw t q (by omega)
end STR
