/-! a net is stored -/
theorem fcd_b {B : BkT} {D : DrT} {Ou : Int → Prop} {r : Int → Int} (h : ShtH B D Ou r) {y : Int} (hy : Dmv B D Ou y) (hn : ¬ SNv D y) : fcd y = to8 (frf false y) := by
  have hp := pt_t h hy hn
  unfold fcd frf
  by_cases e : y < 1000
  · rw [if_pos e, if_pos e, to8_p (by
      rcases hy with q | q | q
      · exact q.1
      · exact absurd q hn
      · have := h.2.2.2.2.1 y q; omega)]
    unfold pt
    rw [if_pos e]
  · rw [if_neg e, if_neg e, if_neg (by decide), to8_n (by
      rcases hp with q | q
      · omega
      · omega)]
section STN
variable {B : BkT} {D : DrT} {Ou : Int → Prop} {r far sk : Int → Int} {rl : Bool} {σ τ : St} {F : Nat}
theorem c_sw (a : Nat) {x : Int} {v : Int32} {g : St} (x0 : 0 ≤ x) (x1 : x < 3200) : f_X4_setWire a (I x) v g = some (seti g (a + 2) x.toNat v) := by
  unfold f_X4_setWire f_X11_isInside
  have c : (0 : Int32) ≤ I x ∧ I x < (3200 : Int32) := ⟨(Ile' (0) (0) (by omega) (by omega) (by omega) (by omega)).mpr x0, (Ilt (3200) (3200) (by omega) (by omega) (by omega) (by omega)).mpr x1⟩
  rw [if_pos c, Option.bind_some, if_neg (show ¬ ((1 : Int32) = 0) by decide), if_pos ((I_inb (by omega) (by omega)).mpr ⟨by omega, by omega⟩ : inb (I x) 3200 = true), show ix (I x) = x.toNat from I_ix (by omega) (by omega), Option.bind_some]
theorem c_swe (a : Nat) {e : Int} {v : Int32} {g : St} (x0 : 0 ≤ e) (x1 : e < 8) : f_X4_setWire a (I (-2 - e)) v g = some (seti g (a + 3) e.toNat v) := by
  unfold f_X4_setWire f_X11_isInside f_X11_endOf
  have e1 : (-2 : Int32) - I (-2 - e) = I e := by rw [show (-2 : Int32) = I (-2) from rfl, I_sub, show -2 - (-2 - e) = e by omega]
  have c : ¬ ((0 : Int32) ≤ I (-2 - e) ∧ I (-2 - e) < (3200 : Int32)) := fun q => by have := (Ile' (0) (0) (by omega) (by omega) (by omega) (by omega)).mp q.1; omega
  have c8 : (0 : Int32) ≤ I e ∧ I e < (8 : Int32) := ⟨(Ile' (0) (0) (by omega) (by omega) (by omega) (by omega)).mpr x0, (Ilt (8) (8) (by omega) (by omega) (by omega) (by omega)).mpr x1⟩
  rw [if_neg c, Option.bind_some, if_pos rfl, e1, Option.bind_some, if_pos c8, Option.bind_some, if_neg (show ¬ ((1 : Int32) = 0) by decide), Option.bind_some, if_pos ((I_inb (by omega) (by omega)).mpr ⟨by omega, by omega⟩ : inb (I e) 8 = true), show ix (I e) = e.toNat from I_ix (by omega) (by omega), Option.bind_some]
theorem mkc_sub {g : St} {M P : Int → Prop} (h : MkC D g (fun z => M z ∨ P z)) (hs : ∀ z, P z → M z) : MkC D g M := mkc_iff h (fun v _ _ => by
  unfold NmM
  constructor
  · rintro ((q | q) | (q | q))
    · exact Or.inl q
    · exact Or.inl (hs _ q)
    · exact Or.inr q
    · exact Or.inr (hs _ q)
  · rintro (q | q)
    · exact Or.inl (Or.inl q)
    · exact Or.inr (Or.inl q))
theorem mkm_sub {g : St} {M P : Int → Prop} (h : MkM D g (fun z => M z ∨ P z)) (hs : ∀ z, P z → M z) : MkM D g M := mkm_iff h (fun z _ _ => ⟨fun q => by rcases q with q | q; exact q; exact hs z q, Or.inl⟩)
theorem c_sn57 (hF : 10000 ≤ F) (h : CH B D Ou r far sk rl σ) {M : Int → Prop} (hM : ∀ t z, Agv B D t → Pw D r far t z → M z) {a : Int} (a0 : 0 ≤ a) (a1 : a < Dna D) : ∀ (m : Nat) (p : Int) (g : St), 0 ≤ p → p ≤ Bpt B (Dak D a) → Bpt B (Dak D a) - p < m → g.2 = σ.2 → (∀ c, c ≠ 7 → c ≠ 29 → g.1 c = σ.1 c) → MkC D g M → (∀ j : Int, 0 ≤ j → g.1 29 j.toNat = if 8 * a ≤ j ∧ j < 8 * a + p then I (fcd (far (5 * a + (j - 8 * a)))) else σ.1 29 j.toNat) → ∃ g', f_X6_storeNet_L57 F (I a) (I (Bpt B (Dak D a))) m (I p) g = some g' ∧ g'.2 = σ.2 ∧ (∀ c, c ≠ 7 → c ≠ 29 → g'.1 c = σ.1 c) ∧ MkC D g' M ∧ (∀ j : Int, 0 ≤ j → g'.1 29 j.toNat = if 8 * a ≤ j ∧ j < 8 * a + Bpt B (Dak D a) then I (fcd (far (5 * a + (j - 8 * a)))) else σ.1 29 j.toNat) := by
  have hS := h.1
  have k := hS.2.2.1 a a0 a1
  have pb := hS.1.2.2.1 _ k.1 k.2
  have na := hS.2.1
  intro m
  induction m with
  | zero => intro p g h0 h1 h2; omega
  | succ m ih =>
    intro p g h0 h1 h2 g2 gc gm gw
    rw [f_X6_storeNet_L57]
    by_cases hp : p = Bpt B (Dak D a)
    · rw [if_neg (by rw [hp]; exact Int32.lt_irrefl)]
      exact ⟨g, rfl, g2, gc, gm, by rw [← hp]; exact gw⟩
    · have hg : CH B D Ou r far sk rl g := ch_fr h (fun c q => gc c (by omega) (by omega)) (by rw [g2])
      have ap := agp (sk := sk) hS a0 a1 h0 (show p < Bpt B (Dak D a) by omega)
      obtain ⟨g1, b1, b2, b3⟩ := c_far1 hF hg (Or.inl ap.1) (ag_n ap.1) gm
      have epc : f_X11_portCode (I a) (I p) = I (pt (5 * a + p)) := by
        unfold f_X11_portCode
        rw [show (8 : Int32) = I 8 from rfl, I_mul, I_add, ap.2.2.1]
      have esw := c_sw 27 (x := 8 * a + p) (v := I (fcd (far (5 * a + p)))) (g := g1) (by omega) (by omega)
      rw [if_pos ((I_lt (by omega) (by omega) (by omega) (by omega)).mpr (by omega)), epc, Option.bind_some, Option.bind_some, b1, Option.bind_some, ap.2.2.1, esw, Option.bind_some, show I p + (1 : Int32) = I (p + 1) by rw [show (1 : Int32) = I 1 from rfl, I_add]]
      refine ih (p + 1) _ (by omega) (by omega) (by omega) (by rw [seti2, b2.1, g2]) (fun c x y => by rw [seti_r y, b2.2 c x, gc c x y]) ?_ (fun j j0 => ?_)
      · have := mkc_sub b3 (hM _ · ap.1)
        intro v v0 v1
        rw [seti_r (by omega)]
        exact this v v0 v1
      · rw [seti1, b2.2 29 (by omega)]
        by_cases e : j = 8 * a + p
        · rw [if_pos ⟨rfl, by rw [e]⟩, if_pos (by omega), show 5 * a + (j - 8 * a) = 5 * a + p by omega]
        · rw [if_neg (by omega), gw j j0]
          by_cases e2 : 8 * a ≤ j ∧ j < 8 * a + p
          · rw [if_pos e2, if_pos (by omega)]
          · rw [if_neg e2, if_neg (by omega)]
def SnI (D : DrT) (B : BkT) (far : Int → Int) (σ : St) (M : Int → Prop) (a : Int) (g : St) : Prop := (∀ c, c ≠ 7 → c ≠ 27 → c ≠ 28 → c ≠ 29 → g.1 c = σ.1 c) ∧ g.2 = σ.2 ∧ (∀ j, j ≠ 3 → j ≠ 6 → g.1 27 j = σ.1 27 j) ∧ g.1 27 3 = I a ∧ (∃ t : Int, 0 ≤ t ∧ t ≤ 400 ∧ a ≤ t ∧ g.1 27 6 = I t) ∧ (∀ i : Int, 0 ≤ i → i < 400 → g.1 28 i.toNat = I (if i < a then Dak D i else -1)) ∧ (∀ a' p, 0 ≤ a' → a' < a → 0 ≤ p → p < Bpt B (Dak D a') → g.1 29 (8 * a' + p).toNat = I (fcd (far (5 * a' + p)))) ∧ MkC D g M
theorem c_sn10 (hF : 10000 ≤ F) (h : CH B D Ou r far sk rl σ) {M : Int → Prop} (hM : ∀ t z, Agv B D t → Pw D r far t z → M z) : ∀ (m : Nat) (a : Int) (g : St), 0 ≤ a → a ≤ Dna D → Dna D - a < m → SnI D B far σ M a g → ∃ g', f_X6_storeNet_L10 F m (I a) g = some g' ∧ SnI D B far σ M (Dna D) g' := by
  have hS := h.1
  have na := hS.2.1
  have b16 := hS.1.2.1
  intro m
  induction m with
  | zero => intro a g h0 h1 h2; omega
  | succ m ih =>
    intro a g h0 h1 h2 hI
    have hI0 := hI
    obtain ⟨i1, i2, i3, i4, ⟨t, t0, t1, t2, i5⟩, i6, i7, i8⟩ := hI
    have hg : CH B D Ou r far sk rl g := ch_fr h (fun c q => i1 c (by omega) (by omega) (by omega) (by omega)) (by rw [i2])
    rw [f_X6_storeNet_L10, hg.2.2.2.2.2.1]
    by_cases ha : a = Dna D
    · rw [if_neg (by rw [ha]; exact Int32.lt_irrefl)]
      exact ⟨g, rfl, by rw [← ha]; exact hI0⟩
    · have k := hS.2.2.1 a h0 (by omega)
      have pb := hS.1.2.2.1 _ k.1 k.2
      have g28 := i6 a h0 (by omega)
      rw [if_neg (by omega)] at g28
      -- add
      obtain ⟨t', t'0, t'1, t'2, et⟩ : ∃ t' : Int, 0 ≤ t' ∧ t' ≤ 400 ∧ a + 1 ≤ t' ∧ f_J9_max_7cf53 (I t) (I (a + 1)) = I t' := by
        unfold f_J9_max_7cf53
        by_cases w : a + 1 ≤ t
        · exact ⟨t, t0, t1, w, by rw [if_pos ((I_le (by omega) (by omega) (by omega) (by omega)).mpr w)]⟩
        · exact ⟨a + 1, by omega, by omega, by omega, by rw [if_neg (fun q => w ((I_le (by omega) (by omega) (by omega) (by omega)).mp q))]⟩
      have cadd : f_X4_add F 27 (I (Dak D a)) (I a) g = some (I a, seti (seti (seti g 28 a.toNat (I (Dak D a))) 27 3 (I (a + 1))) 27 6 (I t')) := by
        obtain ⟨F', rfl⟩ : ∃ F', F = F' + 1 := ⟨F - 1, by omega⟩
        have e3 : (seti g 28 a.toNat (I (Dak D a))).1 27 3 = I a := by rw [seti_r (by omega)]; exact i4
        have e6 : (seti (seti g 28 a.toNat (I (Dak D a))) 27 3 (I (a + 1))).1 27 6 = I t := by rw [seti1, if_neg (by omega), seti_r (by omega)]; exact i5
        unfold f_X4_add
        have em : f_J9_max_7cf53 (I a) (0 : Int32) = I a := by
          unfold f_J9_max_7cf53
          rw [if_pos ((Ile' (0) (0) (by omega) (by omega) (by omega) (by omega)).mpr h0)]
        have c4 : I a < (400 : Int32) := (Ilt (400) (400) (by omega) (by omega) (by omega) (by omega)).mpr (by omega)
        have i4' : inb (I a) 400 = true := (I_inb (by omega) (by omega)).mpr ⟨by omega, by omega⟩
        have x4 : ix (I a) = a.toNat := I_ix (by omega) (by omega)
        rw [em, Option.bind_some, f_X4_add_L6, if_pos c4, if_pos i4', x4, show 27 + 1 = 28 from rfl, g28, if_pos (show I (-1) = (-1 : Int32) from rfl), if_pos i4', Option.bind_some, e3, show I a + (1 : Int32) = I (a + 1) by rw [show (1 : Int32) = I 1 from rfl, I_add], Option.bind_some, e6, et, Option.bind_some, Option.bind_some]
      obtain ⟨gA, egA⟩ : ∃ gA, gA = seti (seti (seti g 28 a.toNat (I (Dak D a))) 27 3 (I (a + 1))) 27 6 (I t') := ⟨_, rfl⟩
      rw [← egA] at cadd
      have frA : ∀ c, c ≠ 27 → c ≠ 28 → gA.1 c = g.1 c := fun c x y => by rw [egA, seti_r x, seti_r x, seti_r y]
      have hgA : CH B D Ou r far sk rl gA := ch_fr hg (fun c q => frA c (by omega) (by omega)) (by rw [egA]; rfl)
      have hgm : MkC D gA M := fun v v0 v1 => by rw [frA 7 (by omega) (by omega)]; exact i8 v v0 v1
      obtain ⟨g', b1, b2, b3, b4, b5⟩ := c_sn57 hF hgA hM h0 (show a < Dna D by omega) F 0 gA (by omega) (by omega) (by omega) rfl (fun _ _ _ => rfl) hgm (fun j j0 => by rw [if_neg (by omega)])
      rw [if_pos ((I_lt (by omega) (by omega) (by omega) (by omega)).mpr (by omega)), c_kindOfD hS hg.2.2.2.2 h0 (by omega), Option.bind_some, cadd, Option.bind_some, c_kindOfD hS hgA.2.2.2.2 h0 (by omega), Option.bind_some, c_ports hS.1 hgA.2.2.2.2.1 k.1 k.2, Option.bind_some, show f_X6_storeNet_L57 F (I a) (I (Bpt B (Dak D a))) F (0 : Int32) (I a, gA).2 = _ from b1, Option.bind_some, show I a + (1 : Int32) = I (a + 1) by rw [show (1 : Int32) = I 1 from rfl, I_add]]
      refine ih (a + 1) g' (by omega) (by omega) (by omega) ⟨fun c x y z w => ?_, ?_, fun j x y => ?_, ?_, ⟨t', t'0, t'1, t'2, ?_⟩, fun i x y => ?_, fun a' p x y z w => ?_, b4⟩
      · rw [b3 c x w, frA c y z]; exact i1 c x y z w
      · rw [b2, egA]; exact i2
      · rw [b3 27 (by omega) (by omega), egA, seti1, if_neg (by omega), seti1, if_neg (by omega), seti_r (by omega)]; exact i3 j x y
      · rw [b3 27 (by omega) (by omega), egA, seti1, if_neg (by omega), seti1, if_pos ⟨rfl, rfl⟩]
      · rw [b3 27 (by omega) (by omega), egA, seti1, if_pos ⟨rfl, rfl⟩]
      · rw [b3 28 (by omega) (by omega), egA, seti_r (by omega), seti_r (by omega), seti1]
        by_cases e : i = a
        · rw [if_pos ⟨rfl, by rw [e]⟩, if_pos (by omega), e]
        · rw [if_neg (by omega), i6 i x y]
          by_cases e2 : i < a
          · rw [if_pos e2, if_pos (by omega)]
          · rw [if_neg e2, if_neg (by omega)]
      · have k' := hS.2.2.1 a' x (by omega)
        have pb' := hS.1.2.2.1 _ k'.1 k'.2
        rw [b5 (8 * a' + p) (by omega)]
        by_cases e : a' = a
        · subst e
          rw [if_pos (by omega), show 5 * a' + (8 * a' + p - 8 * a') = 5 * a' + p by omega]
        · rw [if_neg (by omega), frA 29 (by omega) (by omega)]
          exact i7 a' p x (by omega) z w
theorem c_sn111 (hF : 10000 ≤ F) (h : CH B D Ou r far sk rl σ) {E : Int} (e8 : E ≤ 8) (hO : ∀ e, 0 ≤ e → e < E → Ou (slv e)) (g27 : σ.1 2 7 = I E) : ∀ (m : Nat) (e : Int) (M : Int → Prop) (g : St), 0 ≤ e → e ≤ E → E - e < m → g.2 = σ.2 → (∀ c, c ≠ 7 → c ≠ 30 → g.1 c = σ.1 c) → MkC D g M → (∀ j : Int, 0 ≤ j → j < e → g.1 30 j.toNat = I (fcd (far (slv j)))) → ∃ g', f_X6_storeNet_L111 F m (I e) g = some g' ∧ g'.2 = σ.2 ∧ (∀ c, c ≠ 7 → c ≠ 30 → g'.1 c = σ.1 c) ∧ MkC D g' (fun z => M z ∨ ∃ j, (e ≤ j ∧ j < E) ∧ Pw D r far (slv j) z) ∧ (∀ j : Int, 0 ≤ j → j < E → g'.1 30 j.toNat = I (fcd (far (slv j)))) := by
  have hS := h.1
  intro m
  induction m with
  | zero => intro e M g h0 h1 h2; omega
  | succ m ih =>
    intro e M g h0 h1 h2 g2 gc gm gw
    rw [f_X6_storeNet_L111, show g.1 2 7 = I E by rw [gc 2 (by omega) (by omega)]; exact g27]
    by_cases hp : e = E
    · rw [if_neg (by rw [hp]; exact Int32.lt_irrefl)]
      refine ⟨g, rfl, g2, gc, mkc_iff gm (fun v _ _ => ?_), by rw [← hp]; exact gw⟩
      unfold NmM
      constructor
      · rintro (q | q)
        · exact Or.inl (Or.inl q)
        · exact Or.inr (Or.inl q)
      · rintro ((q | ⟨j, q, _⟩) | (q | ⟨j, q, _⟩))
        · exact Or.inl q
        · omega
        · exact Or.inr q
        · omega
    · have hg : CH B D Ou r far sk rl g := ch_fr h (fun c q => gc c (by omega) (by omega)) (by rw [g2])
      have ho := hO e h0 (by omega)
      obtain ⟨g1, b1, b2, b3⟩ := c_far1 hF hg (Or.inr (Or.inr ho)) (ou_n hS ho) gm
      have esw := c_swe 27 (e := e) (v := I (fcd (far (slv e)))) (g := g1) h0 (by omega)
      unfold f_X11_endCode
      rw [if_pos ((I_lt (by omega) (by omega) (by omega) (by omega)).mpr (by omega)), Option.bind_some, c_outp h0 (by omega), Option.bind_some, b1, Option.bind_some, show (-2 : Int32) - I e = I (-2 - e) by rw [show (-2 : Int32) = I (-2) from rfl, I_sub], esw, Option.bind_some, show I e + (1 : Int32) = I (e + 1) by rw [show (1 : Int32) = I 1 from rfl, I_add]]
      obtain ⟨g', c1, c2, c3, c4, c5⟩ := ih (e + 1) _ (seti g1 (27 + 3) e.toNat (I (fcd (far (slv e))))) (by omega) (by omega) (by omega) (by rw [seti2, b2.1, g2]) (fun c x y => by rw [seti_r y, b2.2 c x, gc c x y]) (fun v v0 v1 => by
        rw [seti_r (by omega)]
        exact b3 v v0 v1) (fun j x y => by
        rw [seti1]
        by_cases w : j = e
        · rw [if_pos ⟨rfl, by rw [w]⟩, w]
        · rw [if_neg (by omega), b2.2 30 (by omega)]; exact gw j x (by omega))
      refine ⟨g', c1, c2, c3, mkc_iff c4 (fun v _ _ => ?_), c5⟩
      have ee : ∀ z, ((M z ∨ Pw D r far (slv e) z) ∨ ∃ j, (e + 1 ≤ j ∧ j < E) ∧ Pw D r far (slv j) z) ↔ (M z ∨ ∃ j, (e ≤ j ∧ j < E) ∧ Pw D r far (slv j) z) := fun z => by
        constructor
        · rintro ((q | q) | ⟨j, q, w⟩)
          · exact Or.inl q
          · exact Or.inr ⟨e, by omega, q⟩
          · exact Or.inr ⟨j, by omega, w⟩
        · rintro (q | ⟨j, q, w⟩)
          · exact Or.inl (Or.inl q)
          · by_cases x : j = e
            · rw [x] at w; exact Or.inl (Or.inr w)
            · exact Or.inr ⟨j, by omega, w⟩
      unfold NmM
      exact or_congr (ee _) (ee _)
/-- the net that a sheet gives -/
noncomputable def ntS (D : DrT) (far : Int → Int) (E : Int) (R : Int32) : NtT := (fun a => if 0 ≤ a ∧ a < Dna D then Dak D a else -1, fun x => frf false (far (if x < 0 then slv (-2 - x) else x)), E, R)
theorem nts_liv (h : ShtH B D Ou r) {E : Int} (R : Int32) (x : Int) : NLiv B (ntS D far E R) x ↔ (x ≤ -2 ∧ -2 - x < E) ∨ Agv B D x := by
  have na := h.2.1
  have e1 : ∀ a, Nk (ntS D far E R) a = if 0 ≤ a ∧ a < Dna D then Dak D a else -1 := fun _ => rfl
  unfold NLiv Agv
  rw [e1]
  show (x ≤ -2 ∧ -2 - x < E) ∨ _ ↔ _
  constructor
  · rintro (q | ⟨q0, q1, q2, q3⟩)
    · exact Or.inl q
    · by_cases w : 0 ≤ x / 5 ∧ x / 5 < Dna D
      · rw [if_pos w] at q3
        exact Or.inr ⟨q0, by omega, w.2, q3⟩
      · rw [if_neg w] at q2; omega
  · rintro (q | q)
    · exact Or.inl q
    · have k := h.2.2.1 (x / 5) (by omega) q.2.2.1
      right
      rw [if_pos ⟨by omega, q.2.2.1⟩]
      exact ⟨q.1, by omega, k.1, q.2.2.2⟩
theorem nts_v (h : ShtH B D Ou r) (hf : FarH B D Ou r far) {E : Int} (E0 : 0 ≤ E) (E8 : E ≤ 8) (hO : ∀ x, Ou x ↔ (1200 ≤ x ∧ x < 1210 ∧ 1 ≤ (x - 1200) % 5 ∧ pt x - 1720 < E)) (R : Int32) : NetV B (ntS D far E R) := by
  have na := h.2.1
  have e1 : ∀ a, Nk (ntS D far E R) a = if 0 ≤ a ∧ a < Dna D then Dak D a else -1 := fun _ => rfl
  have e2 : ∀ x, Nw (ntS D far E R) x = frf false (far (if x < 0 then slv (-2 - x) else x)) := fun _ => rfl
  refine ⟨E0, E8, fun a a0 a4 => ?_, fun x hx => ?_⟩
  · rw [e1]
    by_cases w : 0 ≤ a ∧ a < Dna D
    · rw [if_pos w]
      have := h.2.2.1 a w.1 w.2
      omega
    · rw [if_neg w]
      have := h.1.1
      omega
  · have hl := (nts_liv (far := far) h (E := E) R x).mp hx
    obtain ⟨t, et⟩ : ∃ t, t = if x < 0 then slv (-2 - x) else x := ⟨_, rfl⟩
    have htt : (Dmv B D Ou t ∧ ¬ SNv D t) ∧ frf false t = x := by
      rcases hl with q | q
      · have ex : t = slv (-2 - x) := by rw [et, if_pos (by omega)]
        have sb := slv_b (v := -2 - x) (by omega) (by omega)
        have ho : Ou t := (hO t).mpr (by rw [ex]; exact ⟨sb.1, sb.2.1, by omega, by omega⟩)
        refine ⟨⟨Or.inr (Or.inr ho), ou_n h ho⟩, ?_⟩
        unfold frf
        rw [if_neg (by omega), if_neg (by decide), ex, sb.2.2.2.2]; omega
      · have ex : t = x := by rw [et, if_neg (by have := q.1; omega)]
        rw [ex]
        refine ⟨⟨Or.inl q, ag_n q⟩, ?_⟩
        unfold frf
        rw [if_pos q.2.1]
    have fd := hf t htt.1.1 htt.1.2
    -- a terminal and its place
    have place : ∀ y, Dmv B D Ou y → ¬ SNv D y → NLiv B (ntS D far E R) (frf false y) ∧ (if frf false y < 0 then slv (-2 - frf false y) else frf false y) = y := by
      intro y hy hn
      rcases hy with q | q | q
      · have ef : frf false y = y := by
          unfold frf
          rw [if_pos q.2.1]
        rw [ef]
        exact ⟨(nts_liv h R y).mpr (Or.inr q), if_neg (by have := q.1; omega)⟩
      · exact absurd q hn
      · have hb := (hO y).mp q
        have os := ou_slv h q
        have ef : frf false y = -2 - (pt y - 1720) := by
          unfold frf
          rw [if_neg (by omega), if_neg (by decide)]
        rw [ef]
        refine ⟨(nts_liv h R _).mpr (Or.inl (by omega)), ?_⟩
        rw [if_pos (by omega), show -2 - (-2 - (pt y - 1720)) = pt y - 1720 by omega]
        exact os.1
    have pf := place (far t) fd.2.1 fd.2.2.1
    rw [e2, ← et]
    refine ⟨pf.1, ?_, fun q => ?_⟩
    · rw [e2, pf.2, fd.2.2.2.2, htt.2]
    · have pt' := place t htt.1.1 htt.1.2
      rw [← htt.2] at q
      have := pf.2
      rw [q, pt'.2] at this
      exact fd.2.2.2.1 this.symm
end STN
