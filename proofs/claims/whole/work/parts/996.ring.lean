/-! rings of a sheet -/
def Pth (B : BkT) (D : DrT) (Ou : Int → Prop) (r far : Int → Int) (z : Int) : Prop := ∃ t, (Agv B D t ∨ Ou t) ∧ Pw D r far t z
def Usd (B : BkT) (D : DrT) (Ou : Int → Prop) (r far : Int → Int) (z : Int) : Prop := SNv D z ∧ ¬ Pth B D Ou r far z
noncomputable def rgN (r o : Int → Int) (U : Int → Prop) : Nat → Int → (Int → Prop) → Int
  | 0, _, _ => 0
  | m + 1, v, M => @ite _ (U (1000 + 2 * v) ∧ ¬ M (1000 + 2 * v)) (Classical.propDecidable _) (1 + rgN r o U m (v + 1) (cl r o U M (1000 + 2 * v))) (rgN r o U m (v + 1) M)
def OnR (r o : Int → Int) (x : Int) (k : Nat) (z : Int) : Prop := ∃ i, i < k ∧ (z = r (itr r o i x) ∨ z = itr r o (i + 1) x)
section RGS
variable {B : BkT} {D : DrT} {Ou : Int → Prop} {r far sk : Int → Int} {rl : Bool} {σ τ : St} {F : Nat}
theorem pth_tw (h : ShtH B D Ou r) (hf : FarH B D Ou r far) {z : Int} (sz : SNv D z) (hz : Pth B D Ou r far z) : Pth B D Ou r far (tw z) := by
  obtain ⟨t, ht, k, hw, j, j1, j2⟩ := hz
  have hph := sh_ph h
  refine ⟨t, ht, k, hw, ?_⟩
  rcases j2 with q | q
  · cases j with
    | zero =>
      exfalso
      rw [q] at sz
      rcases ht with w | w
      · exact ag_n w sz
      · exact ou_n h w sz
    | succ j =>
      refine ⟨j, by omega, Or.inr ?_⟩
      rw [q, itr, (hph.2 _ (hw.1 j (by omega))).2.2.1]
  · by_cases e : j = k
    · exfalso
      rw [q, e, hw.2.2] at sz
      exact hw.2.1 sz
    · refine ⟨j + 1, by omega, Or.inl ?_⟩
      rw [q, itr]
theorem us_ph (h : ShtH B D Ou r) (hf : FarH B D Ou r far) : PH r tw (Usd B D Ou r far) (Usd B D Ou r far) := by
  have hph := sh_ph h
  refine ⟨fun x hx => ?_, fun x hx => ?_⟩
  · have dx : Dmv B D Ou x := Or.inr (Or.inl hx.1)
    have hr := hph.1 x dx
    have hterm : ∀ t, (Agv B D t ∨ Ou t) → r x = t → False := by
      intro t ht e
      have td : Dmv B D Ou t := by
        rcases ht with w | w
        · exact Or.inl w
        · exact Or.inr (Or.inr w)
      have tn : ¬ SNv D t := by
        rcases ht with w | w
        · exact ag_n w
        · exact ou_n h w
      obtain ⟨⟨k, _, hw⟩, _⟩ := hf t td tn
      apply hx.2
      refine ⟨t, ht, k, hw, 0, by omega, Or.inr ?_⟩
      show x = r t
      rw [← e, hr.2.1]
    refine ⟨⟨?_, fun q => ?_⟩, hr.2.1, hr.2.2⟩
    · rcases hr.1 with w | w | w
      · exact (hterm _ (Or.inl w) rfl).elim
      · exact w
      · exact (hterm _ (Or.inr w) rfl).elim
    · obtain ⟨t, ht, k, hw, j, j1, j2⟩ := q
      have td : Dmv B D Ou t := by
        rcases ht with w | w
        · exact Or.inl w
        · exact Or.inr (Or.inr w)
      have dj : Dmv B D Ou (itr r tw j t) := itr_D hph td j (fun l hl => hw.1 l (by omega))
      apply hx.2
      refine ⟨t, ht, k, hw, j, j1, ?_⟩
      rcases j2 with q | q
      · exact Or.inr (by rw [← q, hr.2.1])
      · exact Or.inl (by rw [← hr.2.1, q, (hph.1 _ dj).2.1])
  · have ht := hph.2 x hx.1
    refine ⟨hx, ⟨ht.2.1, fun q => ?_⟩, ht.2.2.1, ht.2.2.2⟩
    have := pth_tw h hf ht.2.1 q
    rw [ht.2.2.1] at this
    exact hx.2 this
theorem us_cod (h : ShtH B D Ou r) : Cod tw (Usd B D Ou r far) (fun x => (x - 1000) / 2) 60 := ⟨fun x hx => (sh_cod h).1 x hx.1, fun x y hx hy e => (sh_cod h).2 x y hx.1 hy.1 e⟩
theorem us_cod2 (h : ShtH B D Ou r) (o' : Int → Int) : Cod o' (Usd B D Ou r far) (fun x => x - 1000) 120 := by
  have := h.2.2.2.1
  refine ⟨fun x hx => ?_, fun x y hx hy e => ?_⟩
  · have := hx.1
    unfold SNv at this
    show 0 ≤ x - 1000 ∧ x - 1000 < ((120 : Nat) : Int)
    omega
  · have e' : x - 1000 = y - 1000 := e
    exact Or.inl (by omega)
theorem onr_suc {o : Int → Int} {x : Int} {k : Nat} {z : Int} : OnR r o x (k + 1) z ↔ OnR r o x k z ∨ z = r (itr r o k x) ∨ z = itr r o (k + 1) x := by
  constructor
  · rintro ⟨i, i1, i2⟩
    by_cases e : i = k
    · rw [e] at i2; exact Or.inr i2
    · exact Or.inl ⟨i, by omega, i2⟩
  · rintro (⟨i, i1, i2⟩ | q)
    · exact ⟨i, by omega, i2⟩
    · exact ⟨k, by omega, q⟩
/-- the class goes round -/
theorem c_rnd_L (h : CH B D Ou r far sk rl σ) {x : Int} (hx : Usd B D Ou r far x) : ∀ (m j : Nat) (P : Int → Prop) (g : St), j ≤ 60 → 60 - j < m → Fr7 σ g → MkC D g (fun z => P z ∨ OnR r tw x j z) → ∃ g', f_X1_farCode_L23 F m (I (pt (r (itr r tw j x)))) (I j) g = some (I (pt (r (itr r tw 60 x))), g') ∧ Fr7 σ g' ∧ MkC D g' (fun z => P z ∨ OnR r tw x 60 z) := by
  have hS := h.1
  have up := us_ph hS h.2.2.1
  have h60 := hS.2.2.2.1
  intro m
  induction m with
  | zero => intro j P g h1 h2; omega
  | succ m ih =>
    intro j P g h1 h2 h3 h5
    rw [f_X1_farCode_L23]
    by_cases hj : j = 60
    · rw [if_neg (fun q => by have := (Ilt (60) (60) (by omega) (by omega) (by omega) (by omega)).mp q.1; omega), hj]
      rw [hj] at h5
      exact ⟨g, rfl, h3, h5⟩
    · have u := (up.1 _ (itr_U up hx j)).1
      have hx' := u.1
      unfold SNv at hx'
      have hst : ¬ (f_X1_isStanding (I (pt (r (itr r tw j x)))) = 0) := by
        have hp : pt (r (itr r tw j x)) = r (itr r tw j x) + 600 := by
          unfold pt
          rw [if_neg (by omega), if_pos (by omega)]
        unfold f_X1_isStanding
        rw [if_pos ⟨(Ile' (1600) (1600) (by omega) (by omega) (by omega) (by omega)).mpr (by omega), (Ilt (1720) (1720) (by omega) (by omega) (by omega) (by omega)).mpr (by omega)⟩]
        decide
      rw [if_pos ⟨(Ilt (60) (60) (by omega) (by omega) (by omega) (by omega)).mpr (by omega), hst⟩, c_passN hS h.2.2.2.1 u.1 h3.2, Option.bind_some, show I (j : Int) + (1 : Int32) = I ((j + 1 : Nat) : Int) by rw [show (1 : Int32) = I 1 from rfl, I_add]; rfl]
      refine ih (j + 1) P _ (by omega) (by omega) (fr7_tr h3 ⟨rfl, fun c hc => seti_r hc⟩) (fun v v0 v1 => ?_)
      rw [seti1]
      by_cases e : v = (r (itr r tw j x) - 1000) / 2
      · rw [if_pos ⟨rfl, by rw [e]⟩]
        refine ⟨fun _ => rfl, fun q => ?_⟩
        exfalso
        apply q
        rw [e, nm_tw (by omega)]
        exact Or.inl (Or.inr ⟨j, by omega, Or.inl rfl⟩)
      · rw [if_neg (by omega)]
        have hv := h5 v v0 v1
        have key : ∀ z, SNv D z → (z - 1000) / 2 = v → OnR r tw x (j + 1) z → OnR r tw x j z := by
          intro z sz ez q
          rcases onr_suc.mp q with q | q | q
          · exact q
          · exfalso
            rw [q] at ez
            exact e ez.symm
          · exfalso
            rw [q, itr] at ez
            have : (tw (r (itr r tw j x)) - 1000) / 2 = (r (itr r tw j x) - 1000) / 2 := by rw [tw_e]; omega
            rw [this] at ez
            exact e ez.symm
        have ee : NmM (fun z => P z ∨ OnR r tw x (j + 1) z) v ↔ NmM (fun z => P z ∨ OnR r tw x j z) v := by
          have sv : SNv D (1000 + 2 * v) := by unfold SNv; omega
          have sv' : SNv D (1000 + 2 * v + 1) := by unfold SNv; omega
          unfold NmM
          constructor
          · rintro ((q | q) | (q | q))
            · exact Or.inl (Or.inl q)
            · exact Or.inl (Or.inr (key _ sv (by omega) q))
            · exact Or.inr (Or.inl q)
            · exact Or.inr (Or.inr (key _ sv' (by omega) q))
          · rintro ((q | q) | (q | q))
            · exact Or.inl (Or.inl q)
            · exact Or.inl (Or.inr (onr_suc.mpr (Or.inl q)))
            · exact Or.inr (Or.inl q)
            · exact Or.inr (Or.inr (onr_suc.mpr (Or.inl q)))
        exact ⟨fun q => hv.1 (ee.mp q), fun q => hv.2 (fun w => q (ee.mpr w))⟩
theorem onr_onl (h : ShtH B D Ou r) (hf : FarH B D Ou r far) {x : Int} {p : Nat} (p1 : 1 ≤ p) (p2 : p ≤ 60) (hp : itr r tw p x = x) (z : Int) : OnR r tw x 60 z ↔ OnL r tw x 60 z := by
  constructor
  · rintro ⟨i, i1, i2 | i2⟩
    · exact ⟨i, i1, Or.inr i2⟩
    · by_cases e : i + 1 < 60
      · exact ⟨i + 1, e, Or.inl i2⟩
      · refine ⟨i + 1 - p, by omega, Or.inl ?_⟩
        rw [i2]
        conv => lhs; rw [show i + 1 = (i + 1 - p) + p by omega, itr_add, hp]
  · rintro ⟨i, i1, i2 | i2⟩
    · cases i with
      | zero =>
        refine ⟨p - 1, by omega, Or.inr ?_⟩
        rw [show p - 1 + 1 = p by omega, hp]
        exact i2
      | succ i => exact ⟨i, by omega, Or.inr i2⟩
    · exact ⟨i, i1, Or.inl i2⟩
theorem c_rings (hF : 10000 ≤ F) (h : CH B D Ou r far sk rl σ) : ∀ (n m : Nat) (v c : Int) (M : Int → Prop) (g : St), 0 ≤ v → v + m = Dnn D → m < n → Fr7 σ g → Clo r tw (Usd B D Ou r far) M → MkC D g (fun z => Pth B D Ou r far z ∨ M z) → ∃ g', f_X1_countRings_L4 F n (I c) (I v) g = some (I (c + rgN r tw (Usd B D Ou r far) m v M), g') ∧ Fr7 σ g' := by
  have hS := h.1
  have hf := h.2.2.1
  have h60 := hS.2.2.2.1
  have up := us_ph hS hf
  intro n
  induction n with
  | zero => intro m v c M g h0 h1 h2; omega
  | succ n ih =>
    intro m v c M g h0 h1 h2 h3 hM h5
    have hg := ch7 h h3
    rw [f_X1_countRings_L4, hg.2.2.2.2.2.2.1]
    cases m with
    | zero =>
      rw [if_neg (fun q => by have := (I_lt (by omega) (by omega) (by omega) (by omega)).mp q.1; omega), rgN, Int.add_zero]
      exact ⟨g, rfl, h3⟩
    | succ m =>
      have hc : (I v < I (Dnn D)) ∧ (I v < (60 : Int32)) := ⟨(I_lt (by omega) (by omega) (by omega) (by omega)).mpr (by omega), (Ilt (60) (60) (by omega) (by omega) (by omega) (by omega)).mpr (by omega)⟩
      have hin : inb (I v) 60 = true := (I_inb (by omega) (by omega)).mpr ⟨by omega, by omega⟩
      have hix : ix (I v) = v.toNat := I_ix (by omega) (by omega)
      have sv : SNv D (1000 + 2 * v) := by unfold SNv; omega
      have et : tw (1000 + 2 * v) = 1000 + 2 * v + 1 := by rw [tw_e]; omega
      have et' : tw (1000 + 2 * v + 1) = 1000 + 2 * v := by rw [tw_e]; omega
      have sv' : SNv D (1000 + 2 * v + 1) := by unfold SNv; omega
      rw [if_pos hc, if_pos hin, hix, rgN]
      by_cases hU : Usd B D Ou r far (1000 + 2 * v) ∧ ¬ M (1000 + 2 * v)
      · have hn : ¬ NmM (fun z => Pth B D Ou r far z ∨ M z) v := by
          rintro ((q | q) | (q | q))
          · exact hU.1.2 q
          · exact hU.2 q
          · have := pth_tw hS hf sv' q
            rw [et'] at this
            exact hU.1.2 this
          · have u1 := (up.2 _ hU.1).2.1
            rw [et] at u1
            have := (hM _ u1 q).2
            rw [et'] at this
            exact hU.2 this
        have hp0 := (h5 v h0 (by omega)).2 hn
        obtain ⟨g1, a1, a2, a3⟩ := c_rnd_L (F := F) hg hU.1 F 0 (fun z => Pth B D Ou r far z ∨ M z) g (by omega) (by omega) ⟨rfl, fun _ _ => rfl⟩ (mkc_iff h5 (fun u _ _ => by
          unfold NmM
          constructor
          · rintro (q | q)
            · exact Or.inl (Or.inl q)
            · exact Or.inr (Or.inl q)
          · rintro ((q | ⟨i, i1, _⟩) | (q | ⟨i, i1, _⟩))
            · exact Or.inl q
            · omega
            · exact Or.inr q
            · omega))
        obtain ⟨p, p1, p2, p3⟩ := itr_per up (us_cod hS) hU.1
        have hcl := cl_marks up hM hU.1 p1 p2 p3
        have u60 := (up.1 _ (itr_U up hU.1 60)).1.1
        have u60' := u60
        unfold SNv at u60'
        have ept : pt (r (itr r tw 60 (1000 + 2 * v))) = r (itr r tw 60 (1000 + 2 * v)) + 600 := by
          unfold pt
          rw [if_neg (by omega), if_pos (by omega)]
        have epx : pt (1000 + 2 * v) = 1600 + 2 * v := by
          unfold pt
          rw [if_neg (by omega), if_pos (by omega)]; omega
        have a1' : f_X1_farCode_L23 F F (I (pt (r (1000 + 2 * v)))) (0 : Int32) g = some (I (pt (r (itr r tw 60 (1000 + 2 * v)))), g1) := a1
        have hfar : f_X1_farCode F ((1600 : Int32) + (2 : Int32) * I v) g = some (I (pt (r (itr r tw 60 (1000 + 2 * v)))), g1) := by
          rw [show (1600 : Int32) + (2 : Int32) * I v = I (1600 + 2 * v) by rw [show (1600 : Int32) = I 1600 from rfl, show (2 : Int32) = I 2 from rfl, I_mul, I_add]]
          unfold f_X1_farCode f_X11_isInside
          have hj := hg.2.2.2.1 (1000 + 2 * v) (Or.inr (Or.inl sv))
          rw [epx] at hj
          rw [if_pos (⟨(Ile' (0) (0) (by omega) (by omega) (by omega) (by omega)).mpr (by omega), (Ilt (1728) (1728) (by omega) (by omega) (by omega) (by omega)).mpr (by omega)⟩ : (0 : Int32) ≤ I (1600 + 2 * v) ∧ I (1600 + 2 * v) < (1728 : Int32)), Option.bind_some, if_neg (show ¬ ((1 : Int32) = 0) by decide), if_pos ((I_inb (by omega) (by omega)).mpr ⟨by omega, by omega⟩), show ix (I (1600 + 2 * v)) = (1600 + 2 * v).toNat from I_ix (by omega) (by omega), hj, Option.bind_some, a1', Option.bind_some, if_neg (show ¬ ((1720 : Int32) ≤ I (pt (r (itr r tw 60 (1000 + 2 * v))))) from fun w => by have := (Ile' (1720) (1720) (by omega) (by omega) (by omega) (by omega)).mp w; omega)]
        rw [if_pos hU, hp0, if_pos (show I 0 = (0 : Int32) from rfl), show I c + (1 : Int32) = I (c + 1) by rw [show (1 : Int32) = I 1 from rfl, I_add], Option.bind_some, hfar, Option.bind_some, Option.bind_some, show I v + (1 : Int32) = I (v + 1) by rw [show (1 : Int32) = I 1 from rfl, I_add]]
        obtain ⟨g', b1, b2⟩ := ih m (v + 1) (c + 1) (cl r tw (Usd B D Ou r far) M (1000 + 2 * v)) g1 (by omega) (by omega) (by omega) (fr7_tr h3 a2) cl_clo (mkc_iff a3 (fun u _ _ => by
          have e : ∀ z, ((Pth B D Ou r far z ∨ M z) ∨ OnR r tw (1000 + 2 * v) 60 z) ↔ (Pth B D Ou r far z ∨ cl r tw (Usd B D Ou r far) M (1000 + 2 * v) z) := fun z => by
            rw [onr_onl hS hf p1 p2 p3, ← hcl z]
            constructor
            · rintro ((q | q) | q)
              · exact Or.inl q
              · exact Or.inr (Or.inl q)
              · exact Or.inr (Or.inr q)
            · rintro (q | q | q)
              · exact Or.inl (Or.inl q)
              · exact Or.inl (Or.inr q)
              · exact Or.inr q
          unfold NmM
          exact or_congr (e _) (e _)))
        refine ⟨g', ?_, b2⟩
        rw [show c + (1 + rgN r tw (Usd B D Ou r far) m (v + 1) (cl r tw (Usd B D Ou r far) M (1000 + 2 * v))) = c + 1 + rgN r tw (Usd B D Ou r far) m (v + 1) (cl r tw (Usd B D Ou r far) M (1000 + 2 * v)) by omega]
        exact b1
      · have hn : NmM (fun z => Pth B D Ou r far z ∨ M z) v := by
          left
          by_cases q : Pth B D Ou r far (1000 + 2 * v)
          · exact Or.inl q
          · right
            by_cases w : M (1000 + 2 * v)
            · exact w
            · exact absurd ⟨⟨sv, q⟩, w⟩ hU
        have hp1 := (h5 v h0 (by omega)).1 hn
        rw [if_neg hU, hp1, if_neg (show ¬ (I 1 = (0 : Int32)) by decide), Option.bind_some, show I v + (1 : Int32) = I (v + 1) by rw [show (1 : Int32) = I 1 from rfl, I_add]]
        exact ih m (v + 1) c M g (by omega) (by omega) (by omega) h3 hM h5
/-! the reference goes round -/
theorem us_tm (h : MH B D Ou r far sk rl τ) {x : Int} (hx : Usd B D Ou r far x) : Dtm D ((x - 1000) / 2) = 2 := by
  have hS := h.1
  have sx := hx.1
  unfold SNv at sx
  rcases (h.2.2.2.1.2.1 ((x - 1000) / 2) (by omega) (by omega)).2 with q | ⟨q, _, q2, _⟩
  · exact q
  · exfalso
    have up := us_ph hS h.2.2.1
    by_cases e : x % 2 = 1
    · have := (up.1 x hx).1.1
      rw [show 1000 + 2 * ((x - 1000) / 2) + 1 = x by omega] at q2
      exact ou_n hS q2 this
    · have hx2 := (up.2 x hx).2.1
      have := (up.1 _ hx2).1.1
      rw [show 1000 + 2 * ((x - 1000) / 2) + 1 = tw x by rw [tw_e]; omega] at q2
      exact ou_n hS q2 this
theorem m_rnd_L (h : MH B D Ou r far sk rl τ) {x : Int} {P M : Int → Prop} {p : Nat} (hx : Usd B D Ou r far x) (hP : ∀ z, P z → ¬ Usd B D Ou r far z) (hM : Clo r tw (Usd B D Ou r far) M) (hn : ¬ M x) (p1 : 1 ≤ p) (hp : itr tw r p x = x) (hmin : ∀ j, 1 ≤ j → j < p → itr tw r j x ≠ x) (c1 c2 : Int32) : ∀ (n j : Nat) (g : St), j ≤ p → p - j < n → Fr35 τ g → MkM D g (fun z => (P z ∨ M z) ∨ OnL tw r x j z) → ∃ g', f_X12_sheetRings_L50 F c1 c2 n (I (itr tw r j x)) g = some g' ∧ Fr35 τ g' ∧ MkM D g' (fun z => (P z ∨ M z) ∨ OnL tw r x p z) := by
  have hS := h.1
  have h60 := hS.2.2.2.1
  have hph := ph_swap (us_ph hS h.2.2.1)
  intro n
  induction n with
  | zero => intro j g h1 h2; omega
  | succ n ih =>
    intro j g h1 h2 h3 h5
    have uj := itr_U hph hx j
    have sj := uj.1
    have sj' := sj
    unfold SNv at sj'
    have htm := us_tm h uj
    obtain ⟨y, ey⟩ : ∃ y, y = itr tw r j x := ⟨_, rfl⟩
    have hin : inb (I y) 1211 = true := (I_inb (by omega) (by omega)).mpr ⟨by omega, by omega⟩
    have hix : ix (I y) = y.toNat := I_ix (by omega) (by omega)
    rw [← ey] at sj sj' htm uj ⊢
    rw [f_X12_sheetRings_L50, if_pos hin, hix]
    by_cases hj : j = p
    · have hx2 := us_tm h hx
      have := (h5 x hx.1 (Or.inl hx2)).1 (Or.inr ⟨0, by omega, Or.inl rfl⟩)
      have eyx : y = x := by rw [ey, hj, hp]
      rw [eyx, this, if_neg (show ¬ (I 1 = (0 : Int32)) by decide)]
      exact ⟨g, rfl, h3, by rw [hj] at h5; exact h5⟩
    · have hun : ¬ ((P y ∨ M y) ∨ OnL tw r x j y) := by
        cases j with
        | zero =>
          have eyx : y = x := ey
          rintro ((q | q) | ⟨i, q, _⟩)
          · exact hP _ q uj
          · rw [eyx] at q; exact hn q
          · omega
        | succ j =>
          have := cl_fresh hph (clo_swap hM) hx hn hmin (j := j + 1) (by omega) (by omega)
          rw [← ey] at this
          rintro ((q | q) | q)
          · exact hP _ q uj
          · exact this (Or.inl q)
          · exact this (Or.inr q)
      have h0 := (h5 y sj (Or.inl htm)).2 hun
      have ut := (hph.1 _ uj).1
      have st := ut.1
      have st' := st
      unfold SNv at st'
      have htm' := us_tm h ut
      have q1 := mkm_set h60.2 h5 sj
      have q2 := mkm_set h60.2 q1 st
      have e1 : I y - (1000 : Int32) = I (y - 1000) := by rw [show (1000 : Int32) = I 1000 from rfl, I_sub]
      have e2 : I (y - 1000) / (2 : Int32) = I ((y - 1000) / 2) := I_div (b := 2) (by omega) (by omega) (by omega) (by omega)
      have e3 : ((((1000 : Int32) + ((2 : Int32) * I ((y - 1000) / 2))) + (1 : Int32)) - (I (y - 1000) - I ((y - 1000) / 2) * (2 : Int32))) = I (tw y) := by
        rw [show (1000 : Int32) = I 1000 from rfl, show (2 : Int32) = I 2 from rfl, show (1 : Int32) = I 1 from rfl, I_mul, I_mul, I_add, I_add, I_sub, I_sub, tw_e, show 1000 + 2 * ((y - 1000) / 2) + 1 - (y - 1000 - (y - 1000) / 2 * 2) = 2 * (y / 2) + 1 - y % 2 by omega]
      have hin2 : inb (I (tw y)) 1211 = true := (I_inb (by omega) (by omega)).mpr ⟨by omega, by omega⟩
      have hix2 : ix (I (tw y)) = (tw y).toNat := I_ix (by omega) (by omega)
      have h29 := h.2.2.2.1.1 (tw y) (Or.inr (Or.inl st)) (Or.inr (Or.inl ⟨by omega, Or.inl htm'⟩))
      have e29 : (seti (seti g 35 y.toNat (1 : Int32)) 35 (tw y).toNat (1 : Int32)).1 29 (tw y).toNat = I (r (tw y)) := by rw [seti_r (by omega), seti_r (by omega), h3.2 29 (by omega)]; exact h29
      rw [h0, if_pos (show I 0 = (0 : Int32) from rfl), if_pos hin, Option.bind_some, e1, e2, e3, Option.bind_some, if_pos hin2, hix2, Option.bind_some, if_pos hin2, e29, Option.bind_some]
      have hnx : r (tw y) = itr tw r (j + 1) x := by rw [itr, ← ey]
      rw [hnx]
      refine ih (j + 1) _ (by omega) (by omega) (fr35_tr h3 ⟨rfl, fun c hc => by rw [seti_r hc, seti_r hc]⟩) (mkm_iff q2 (fun z _ _ => ?_))
      rw [onl_suc, ← ey]
      constructor
      · rintro (((q | q) | q) | q)
        · exact Or.inl q
        · exact Or.inr (Or.inl q)
        · exact Or.inr (Or.inr (Or.inl q))
        · exact Or.inr (Or.inr (Or.inr q))
      · rintro (q | q | q | q)
        · exact Or.inl (Or.inl (Or.inl q))
        · exact Or.inl (Or.inl (Or.inr q))
        · exact Or.inl (Or.inr q)
        · exact Or.inr q
theorem m_ringsM (hF : 10000 ≤ F) (h : MH B D Ou r far sk rl τ) : ∀ (m n : Nat) (v c : Int) (M : Int → Prop) (g : St), 0 ≤ v → v + m = Dnn D → 2 * m < n → Fr35 τ g → Clo r tw (Usd B D Ou r far) M → MkM D g (fun z => Pth B D Ou r far z ∨ M z) → ∃ g', f_X12_sheetRings_L6 F n (I c) (I (1000 + 2 * v)) g = some (I (c + rgN r tw (Usd B D Ou r far) m v M), g') ∧ Fr35 τ g' ∧ ∃ M' : Int → Prop, MkM D g' (fun z => Pth B D Ou r far z ∨ M' z) := by
  have hS := h.1
  have hf := h.2.2.1
  have h60 := hS.2.2.2.1
  have up := us_ph hS hf
  intro m
  induction m with
  | zero =>
    intro n v c M g h0 h1 h2 h3 hM h5
    obtain ⟨n, rfl⟩ : ∃ n', n = n' + 1 := ⟨n - 1, by omega⟩
    have hg := mh35 h h3
    rw [f_X12_sheetRings_L6, hg.2.2.2.2.2.2.1, show (1000 : Int32) + (2 : Int32) * I (Dnn D) = I (1000 + 2 * Dnn D) by rw [show (1000 : Int32) = I 1000 from rfl, show (2 : Int32) = I 2 from rfl, I_mul, I_add], if_neg (fun q => by have := (I_lt (by omega) (by omega) (by omega) (by omega)).mp q; omega), rgN, Int.add_zero]
    exact ⟨g, rfl, h3, M, h5⟩
  | succ m ih =>
    intro n v c M g h0 h1 h2 h3 hM h5
    obtain ⟨n, rfl⟩ : ∃ n', n = n' + 1 + 1 := ⟨n - 2, by omega⟩
    have sv : SNv D (1000 + 2 * v) := by unfold SNv; omega
    have et : tw (1000 + 2 * v) = 1000 + 2 * v + 1 := by rw [tw_e]; omega
    have et' : tw (1000 + 2 * v + 1) = 1000 + 2 * v := by rw [tw_e]; omega
    have sv' : SNv D (1000 + 2 * v + 1) := by unfold SNv; omega
    have lim : ∀ g' : St, Fr35 τ g' → (1000 : Int32) + (2 : Int32) * g'.1 0 54 = I (1000 + 2 * Dnn D) := fun g' f => by
      rw [(mh35 h f).2.2.2.2.2.2.1, show (1000 : Int32) = I 1000 from rfl, show (2 : Int32) = I 2 from rfl, I_mul, I_add]
    have div : ∀ x : Int, 1000 ≤ x → x < 1120 → (I x - (1000 : Int32)) / (2 : Int32) = I ((x - 1000) / 2) := fun x a b => by
      rw [show I x - (1000 : Int32) = I (x - 1000) by rw [show (1000 : Int32) = I 1000 from rfl, I_sub]]
      exact I_div (b := 2) (by omega) (by omega) (by omega) (by omega)
    -- the second standing counts nothing
    have second : ∀ (g' : St) (c' : Int) (M' : Int → Prop), Fr35 τ g' → MkM D g' (fun z => Pth B D Ou r far z ∨ M' z) → (Dtm D v = 2 → Pth B D Ou r far (1000 + 2 * v + 1) ∨ M' (1000 + 2 * v + 1)) → f_X12_sheetRings_L6 F (n + 1) (I c') (I (1000 + 2 * v + 1)) g' = f_X12_sheetRings_L6 F n (I c') (I (1000 + 2 * (v + 1))) g' := by
      intro g' c' M' f mk hm
      have hg := mh35 h f
      have m31 := (hg.2.2.2.1.2.1 v h0 (by omega)).1
      have tmv := (hg.2.2.2.1.2.1 v h0 (by omega)).2
      have i1 : inb (I (1000 + 2 * v + 1)) 1211 = true := (I_inb (by omega) (by omega)).mpr ⟨by omega, by omega⟩
      have x1 : ix (I (1000 + 2 * v + 1)) = (1000 + 2 * v + 1).toNat := I_ix (by omega) (by omega)
      have i6 : inb (I v) 60 = true := (I_inb (by omega) (by omega)).mpr ⟨by omega, by omega⟩
      have x6 : ix (I v) = v.toNat := I_ix (by omega) (by omega)
      rw [f_X12_sheetRings_L6, lim g' f, if_pos ((I_lt (by omega) (by omega) (by omega) (by omega)).mpr (by omega)), if_pos i1, x1, div _ (by omega) (by omega), show (1000 + 2 * v + 1 - 1000) / 2 = v by omega, if_pos i6, x6, m31]
      have fin : (if g'.1 35 (1000 + 2 * v + 1).toNat = 0 then (if I (Dtm D v) = (2 : Int32) then (Option.bind (some (I c' + (1 : Int32))) fun x11 => Option.bind (f_X12_sheetRings_L50 F x11 (I (1000 + 2 * v + 1)) F (I (1000 + 2 * v + 1)) g') fun t24 => some (x11, t24)) else some (I c', g')) else some (I c', g')) = some (I c', g') := by
        by_cases q : Dtm D v = 2
        · have := (mk _ sv' (Or.inl (by rw [show (1000 + 2 * v + 1 - 1000) / 2 = v by omega]; exact q))).1 (hm q)
          rw [this, if_neg (show ¬ (I 1 = (0 : Int32)) by decide)]
        · rcases tmv with w | ⟨w, _⟩
          · exact absurd w q
          · rw [w, if_neg (show ¬ (I 1 = (2 : Int32)) by decide)]
            split <;> rfl
      rw [fin, Option.bind_some, show I (1000 + 2 * v + 1) + (1 : Int32) = I (1000 + 2 * (v + 1)) by rw [show (1 : Int32) = I 1 from rfl, I_add, show 1000 + 2 * v + 1 + 1 = 1000 + 2 * (v + 1) by omega]]
    have hg := mh35 h h3
    have m31 := (hg.2.2.2.1.2.1 v h0 (by omega)).1
    have i1 : inb (I (1000 + 2 * v)) 1211 = true := (I_inb (by omega) (by omega)).mpr ⟨by omega, by omega⟩
    have x1 : ix (I (1000 + 2 * v)) = (1000 + 2 * v).toNat := I_ix (by omega) (by omega)
    have i6 : inb (I v) 60 = true := (I_inb (by omega) (by omega)).mpr ⟨by omega, by omega⟩
    have x6 : ix (I v) = v.toNat := I_ix (by omega) (by omega)
    rw [f_X12_sheetRings_L6, lim g h3, if_pos ((I_lt (by omega) (by omega) (by omega) (by omega)).mpr (by omega)), if_pos i1, x1, div _ (by omega) (by omega), show (1000 + 2 * v - 1000) / 2 = v by omega, if_pos i6, x6, m31, rgN]
    have rel : Dtm D ((1000 + 2 * v - 1000) / 2) = 2 ∨ (1000 + 2 * v) % 2 = 0 := Or.inr (by omega)
    by_cases hU : Usd B D Ou r far (1000 + 2 * v) ∧ ¬ M (1000 + 2 * v)
    · have htm := us_tm h hU.1
      rw [show (1000 + 2 * v - 1000) / 2 = v by omega] at htm
      have hp0 := (h5 _ sv rel).2 (fun q => by
        rcases q with q | q
        · exact hU.1.2 q
        · exact hU.2 q)
      obtain ⟨p', hp'⟩ := itr_per (ph_swap up) (us_cod2 hS r) hU.1
      obtain ⟨p, p1, p2, p3, p4⟩ := least_per (P := fun m => itr tw r m (1000 + 2 * v) = 1000 + 2 * v) 120 ⟨p', hp'⟩
      obtain ⟨g1, a1, a2, a3⟩ := m_rnd_L (F := F) h hU.1 (P := Pth B D Ou r far) (fun z q w => w.2 q) hM hU.2 p1 p3 p4 (I (c + 1)) (I (1000 + 2 * v)) F 0 g (by omega) (by omega) h3 (mkm_iff h5 (fun z _ _ => ⟨Or.inl, fun q => by
        rcases q with q | ⟨j, q, _⟩
        · exact q
        · omega⟩))
      have hcl := fun z => (cl_marks (ph_swap up) (clo_swap hM) hU.1 p1 (Nat.le_refl p) p3 z).trans cl_swap
      have a1' : f_X12_sheetRings_L50 F (I (c + 1)) (I (1000 + 2 * v)) F (I (1000 + 2 * v)) g = some g1 := a1
      have a3' : MkM D g1 (fun z => Pth B D Ou r far z ∨ cl r tw (Usd B D Ou r far) M (1000 + 2 * v) z) := mkm_iff a3 (fun z _ _ => by
        rw [← hcl z]
        constructor
        · rintro ((q | q) | q)
          · exact Or.inl q
          · exact Or.inr (Or.inl q)
          · exact Or.inr (Or.inr q)
        · rintro (q | q | q)
          · exact Or.inl (Or.inl q)
          · exact Or.inl (Or.inr q)
          · exact Or.inr q)
      rw [if_pos hU, hp0, if_pos (show I 0 = (0 : Int32) from rfl), htm, if_pos (show I 2 = (2 : Int32) from rfl), show I c + (1 : Int32) = I (c + 1) by rw [show (1 : Int32) = I 1 from rfl, I_add], Option.bind_some, a1', Option.bind_some, Option.bind_some, show I (1000 + 2 * v) + (1 : Int32) = I (1000 + 2 * v + 1) by rw [show (1 : Int32) = I 1 from rfl, I_add]]
      have s2 := second g1 (c + 1) _ a2 a3' (fun _ => Or.inr (by
        have := (cl_clo (r := r) (o := tw) (U := Usd B D Ou r far) (M := M) (x := 1000 + 2 * v) _ hU.1 (fun P _ _ q => q)).2
        rw [et] at this
        exact this))
      obtain ⟨g', b1, b2, b3⟩ := ih n (v + 1) (c + 1) (cl r tw (Usd B D Ou r far) M (1000 + 2 * v)) g1 (by omega) (by omega) (by omega) a2 cl_clo a3'
      refine ⟨g', ?_, b2, b3⟩
      rw [show c + (1 + rgN r tw (Usd B D Ou r far) m (v + 1) (cl r tw (Usd B D Ou r far) M (1000 + 2 * v))) = c + 1 + rgN r tw (Usd B D Ou r far) m (v + 1) (cl r tw (Usd B D Ou r far) M (1000 + 2 * v)) by omega]
      exact s2.trans b1
    · have hin : Pth B D Ou r far (1000 + 2 * v) ∨ M (1000 + 2 * v) := by
        by_cases q : Pth B D Ou r far (1000 + 2 * v)
        · exact Or.inl q
        · right
          by_cases w : M (1000 + 2 * v)
          · exact w
          · exact absurd ⟨⟨sv, q⟩, w⟩ hU
      have hp1 := (h5 _ sv rel).1 hin
      rw [if_neg hU, hp1, if_neg (show ¬ (I 1 = (0 : Int32)) by decide), Option.bind_some, show I (1000 + 2 * v) + (1 : Int32) = I (1000 + 2 * v + 1) by rw [show (1 : Int32) = I 1 from rfl, I_add]]
      have s2 := second g c M h3 h5 (fun _ => by
        rcases hin with q | q
        · have := pth_tw hS hf sv q
          rw [et] at this
          exact Or.inl this
        · by_cases w : Pth B D Ou r far (1000 + 2 * v)
          · have := pth_tw hS hf sv w
            rw [et] at this
            exact Or.inl this
          · have := (hM _ ⟨sv, w⟩ q).2
            rw [et] at this
            exact Or.inr this)
      obtain ⟨g', b1, b2, b3⟩ := ih n (v + 1) c M g (by omega) (by omega) (by omega) h3 hM h5
      exact ⟨g', s2.trans b1, b2, b3⟩
theorem m_rings (hF : 10000 ≤ F) (h : MH B D Ou r far sk rl τ) (m n : Nat) (v c : Int) (M : Int → Prop) (g : St) (h0 : 0 ≤ v) (h1 : v + m = Dnn D) (h2 : 2 * m < n) (h3 : Fr35 τ g) (h4 : Clo r tw (Usd B D Ou r far) M) (h5 : MkM D g (fun z => Pth B D Ou r far z ∨ M z)) : ∃ g', f_X12_sheetRings_L6 F n (I c) (I (1000 + 2 * v)) g = some (I (c + rgN r tw (Usd B D Ou r far) m v M), g') ∧ Fr35 τ g' := by
  obtain ⟨g', a, b, _⟩ := m_ringsM hF h m n v c M g h0 h1 h2 h3 h4 h5
  exact ⟨g', a, b⟩
end RGS
