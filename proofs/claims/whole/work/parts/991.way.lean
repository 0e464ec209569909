/-! the ways through the names of a sheet -/
def tw (x : Int) : Int := if x % 2 = 0 then x + 1 else x - 1
def Agv (B : BkT) (D : DrT) (x : Int) : Prop := 0 ≤ x ∧ x < 1000 ∧ x / 5 < Dna D ∧ x % 5 < Bpt B (Dak D (x / 5))
def SNv (D : DrT) (x : Int) : Prop := 1000 ≤ x ∧ x < 1000 + 2 * Dnn D
def Dmv (B : BkT) (D : DrT) (Ou : Int → Prop) (x : Int) : Prop := Agv B D x ∨ SNv D x ∨ Ou x
/-- a sheet where all is joined -/
def ShtH (B : BkT) (D : DrT) (Ou : Int → Prop) (r : Int → Int) : Prop := KdV B ∧ (0 ≤ Dna D ∧ Dna D ≤ 200) ∧ (∀ a, 0 ≤ a → a < Dna D → 0 ≤ Dak D a ∧ Dak D a < Bkn B) ∧ (0 ≤ Dnn D ∧ Dnn D ≤ 60) ∧ (∀ x, Ou x → 1200 ≤ x ∧ x < 1210 ∧ 1 ≤ (x - 1200) % 5) ∧ ∀ x, Dmv B D Ou x → Dmv B D Ou (r x) ∧ r (r x) = x ∧ r x ≠ x
theorem xor1 : ∀ b : Fin 120, I ((b.val : Nat) : Int) ^^^ (1 : Int32) = I (tw ((b.val : Nat) : Int)) := by decide +kernel
theorem I_xor1 {a : Int} (h0 : 0 ≤ a) (h1 : a < 120) : I a ^^^ (1 : Int32) = I (tw a) := by
  have := xor1 ⟨a.toNat, by omega⟩
  have e : (((⟨a.toNat, by omega⟩ : Fin 120).val : Nat) : Int) = a := by
    show ((a.toNat : Nat) : Int) = a
    omega
  rw [e] at this
  exact this
theorem tw_s {x : Int} : tw (x - 1000) = tw x - 1000 := by
  unfold tw
  by_cases h : x % 2 = 0
  · rw [if_pos h, if_pos (by omega)]; omega
  · rw [if_neg h, if_neg (by omega)]; omega
theorem tw_e {x : Int} : tw x = 2 * (x / 2) + 1 - x % 2 := by
  unfold tw
  by_cases h : x % 2 = 0
  · rw [if_pos h]; omega
  · rw [if_neg h]; omega
section SHT
variable {B : BkT} {D : DrT} {Ou : Int → Prop} {r : Int → Int}
theorem sh_ph (h : ShtH B D Ou r) : PH r tw (SNv D) (Dmv B D Ou) := by
  refine ⟨h.2.2.2.2.2, fun x hx => ⟨Or.inr (Or.inl hx), ?_, ?_, ?_⟩⟩
  · unfold SNv at hx ⊢
    rw [tw_e]; omega
  · rw [tw_e, tw_e]; omega
  · rw [tw_e]; omega
theorem sh_cod (h : ShtH B D Ou r) : Cod tw (SNv D) (fun x => (x - 1000) / 2) 60 := by
  have := h.2.2.2.1
  refine ⟨fun x hx => ?_, fun x y hx hy e => ?_⟩
  · unfold SNv at hx
    show 0 ≤ (x - 1000) / 2 ∧ (x - 1000) / 2 < ((60 : Nat) : Int)
    omega
  · unfold SNv at hx hy
    have e' : (x - 1000) / 2 = (y - 1000) / 2 := e
    rw [tw_e]; omega
theorem ou_n (h : ShtH B D Ou r) {x : Int} (hx : Ou x) : ¬ SNv D x := by
  have := h.2.2.2.2.1 x hx
  have := h.2.2.2.1
  unfold SNv
  omega
theorem ag_n {x : Int} (hx : Agv B D x) : ¬ SNv D x := by
  unfold Agv at hx
  unfold SNv
  omega
theorem dm_ok (h : ShtH B D Ou r) {x : Int} (hx : Dmv B D Ou x) : Vok x := by
  have h1 := h.2.2.2.1
  rcases hx with q | q | q
  · unfold Agv at q
    exact Or.inl (by omega)
  · unfold SNv at q
    exact Or.inl (by omega)
  · have := h.2.2.2.2.1 x q
    exact Or.inr (by omega)
/-- every terminal has its way -/
theorem sh_way (h : ShtH B D Ou r) {t : Int} (ht : Dmv B D Ou t) (hn : ¬ SNv D t) : ∃ k y, k ≤ 60 ∧ Way r tw (SNv D) t k y ∧ Dmv B D Ou y ∧ ¬ SNv D y ∧ y ≠ t := by
  obtain ⟨k, k1, k2, k3⟩ := itr_term (sh_ph h) (sh_cod h) ht hn
  have hw : Way r tw (SNv D) t k (r (itr r tw k t)) := ⟨k2, k3, rfl⟩
  refine ⟨k, _, k1, hw, (way_rev (sh_ph h) ht hn hw).1, k3, fun q => ?_⟩
  rw [q] at hw
  exact way_ne (sh_ph h) ht hw
def NmM (M : Int → Prop) (v : Int) : Prop := M (1000 + 2 * v) ∨ M (1000 + 2 * v + 1)
def MkC (D : DrT) (σ : St) (M : Int → Prop) : Prop := ∀ v, 0 ≤ v → v < Dnn D → (NmM M v → σ.1 7 v.toNat = I 1) ∧ (¬ NmM M v → σ.1 7 v.toNat = I 0)
def MkM (D : DrT) (τ : St) (M : Int → Prop) : Prop := ∀ x, SNv D x → (Dtm D ((x - 1000) / 2) = 2 ∨ x % 2 = 0) → (M x → τ.1 35 x.toNat = I 1) ∧ (¬ M x → τ.1 35 x.toNat = I 0)
theorem mkc_iff {σ : St} {M M' : Int → Prop} (h : MkC D σ M) (e : ∀ v, 0 ≤ v → v < Dnn D → (NmM M v ↔ NmM M' v)) : MkC D σ M' := fun v a b => ⟨fun q => (h v a b).1 ((e v a b).mpr q), fun q => (h v a b).2 (fun w => q ((e v a b).mp w))⟩
theorem mkm_iff {τ : St} {M M' : Int → Prop} (h : MkM D τ M) (e : ∀ x, SNv D x → (Dtm D ((x - 1000) / 2) = 2 ∨ x % 2 = 0) → (M x ↔ M' x)) : MkM D τ M' := fun x a b => ⟨fun q => (h x a b).1 ((e x a b).mpr q), fun q => (h x a b).2 (fun w => q ((e x a b).mp w))⟩
theorem nm_tw {M : Int → Prop} {x : Int} (hx : 1000 ≤ x) : NmM M ((x - 1000) / 2) ↔ M x ∨ M (tw x) := by
  unfold NmM
  rw [tw_e]
  by_cases e : x % 2 = 0
  · rw [show 1000 + 2 * ((x - 1000) / 2) = x by omega, show 2 * (x / 2) + 1 - x % 2 = x + 1 by omega]
  · rw [show 1000 + 2 * ((x - 1000) / 2) + 1 = x by omega, show 2 * (x / 2) + 1 - x % 2 = 1000 + 2 * ((x - 1000) / 2) by omega]
    exact Or.comm
def CJ (B : BkT) (D : DrT) (Ou : Int → Prop) (r : Int → Int) (σ : St) : Prop := ∀ x, Dmv B D Ou x → σ.1 3 (pt x).toNat = I (pt (r x))
def fcd (y : Int) : Int := if y < 1000 then pt y else -2 - (pt y - 1720)
theorem pt_t (h : ShtH B D Ou r) {y : Int} (hy : Dmv B D Ou y) (hn : ¬ SNv D y) : (y < 1000 ∧ 0 ≤ pt y ∧ pt y < 1600) ∨ (1200 ≤ y ∧ 1720 ≤ pt y ∧ pt y < 1728) := by
  unfold pt
  rcases hy with q | q | q
  · unfold Agv at q
    left
    rw [if_pos (by omega)]; omega
  · exact absurd q hn
  · have := h.2.2.2.2.1 y q
    right
    rw [if_neg (by omega), if_neg (by omega)]; omega
variable {σ τ : St} {F : Nat}
/-- a name passed by the class -/
theorem c_passN (h : ShtH B D Ou r) (hJ : CJ B D Ou r σ) {x : Int} (hx : SNv D x) {g : St} (hg : ∀ c, c ≠ 7 → g.1 c = σ.1 c) : f_X1_passName (I (pt x)) g = some (I (pt (r (tw x))), seti g 7 ((x - 1000) / 2).toNat (I 1)) := by
  have h60 := h.2.2.2.1
  have hx' := hx
  unfold SNv at hx'
  have hp : pt x = x + 600 := by
    unfold pt
    rw [if_neg (by omega), if_pos (by omega)]
  have ht := ((sh_ph h).2 x hx).2.1
  have ht' := ht
  unfold SNv at ht'
  have hpt : pt (tw x) = tw x + 600 := by
    unfold pt
    rw [if_neg (by omega), if_pos (by omega)]
  have hj := hJ (tw x) (Or.inr (Or.inl ht))
  unfold f_X1_passName
  have e1 : I (pt x) - (1600 : Int32) = I (x - 1000) := by rw [hp, show (1600 : Int32) = I 1600 from rfl, I_sub, show x + 600 - 1600 = x - 1000 by omega]
  have c1 : (0 : Int32) ≤ I (x - 1000) ∧ ¬ ((120 : Int32) ≤ I (x - 1000)) := ⟨(Ile' (0) (0) (by omega) (by omega) (by omega) (by omega)).mpr (by omega), fun q => by have := (Ile' (120) (120) (by omega) (by omega) (by omega) (by omega)).mp q; omega⟩
  have e2 : I (x - 1000) >>> ((1 : Int32) &&& 31) = I ((x - 1000) / 2) := I_shr1 (by omega) (by omega)
  have e3 : (1600 : Int32) + (I (x - 1000) ^^^ (1 : Int32)) = I (pt (tw x)) := by rw [I_xor1 (by omega) (by omega), tw_s, show (1600 : Int32) = I 1600 from rfl, I_add, hpt, show 1600 + (tw x - 1000) = tw x + 600 by omega]
  have i60 : inb (I ((x - 1000) / 2)) 60 = true := (I_inb (by omega) (by omega)).mpr ⟨by omega, by omega⟩
  have x60 : ix (I ((x - 1000) / 2)) = ((x - 1000) / 2).toNat := I_ix (by omega) (by omega)
  have i17 : inb (I (pt (tw x))) 1728 = true := (I_inb (by omega) (by omega)).mpr ⟨by omega, by omega⟩
  have x17 : ix (I (pt (tw x))) = (pt (tw x)).toNat := I_ix (by omega) (by omega)
  rw [e1, Option.bind_some, if_pos c1, e2, if_pos i60, x60, Option.bind_some, e3, if_pos i17, x17, seti_r (by omega), hg 3 (by omega), hj]
  rfl
theorem c_far_L (h : ShtH B D Ou r) (hJ : CJ B D Ou r σ) {t y : Int} {k : Nat} (ht : Dmv B D Ou t) (hn : ¬ SNv D t) (hk : k ≤ 60) (hw : Way r tw (SNv D) t k y) : ∀ (m j : Nat) (M : Int → Prop) (g : St), j ≤ k → k - j < m → g.2 = σ.2 → (∀ c, c ≠ 7 → g.1 c = σ.1 c) → MkC D g (fun z => M z ∨ OnL r tw t j z) → ∃ g', f_X1_farCode_L23 F m (I (pt (r (itr r tw j t)))) (I j) g = some (I (pt y), g') ∧ g'.2 = σ.2 ∧ (∀ c, c ≠ 7 → g'.1 c = σ.1 c) ∧ MkC D g' (fun z => M z ∨ OnP r tw t k z) := by
  have hph := sh_ph h
  intro m
  induction m with
  | zero => intro j M g h1 h2; omega
  | succ m ih =>
    intro j M g h1 h2 h3 h4 h5
    rw [f_X1_farCode_L23]
    by_cases hj : j = k
    · have hy : r (itr r tw j t) = y := by rw [hj]; exact hw.2.2
      have hyD := (way_rev hph ht hn hw).1
      have hp := pt_t h hyD hw.2.1
      have hst : f_X1_isStanding (I (pt y)) = 0 := by
        unfold f_X1_isStanding
        rw [if_neg (fun q => by
          have a1 := (Ile' (1600) (1600) (by omega) (by omega) (by omega) (by omega)).mp q.1
          have a2 := (Ilt (1720) (1720) (by omega) (by omega) (by omega) (by omega)).mp q.2
          omega)]
      rw [hy, if_neg (fun q => q.2 hst)]
      refine ⟨g, rfl, h3, h4, mkc_iff h5 (fun v v0 v1 => ?_)⟩
      have sv : SNv D (1000 + 2 * v) := by unfold SNv; omega
      have sv' : SNv D (1000 + 2 * v + 1) := by unfold SNv; omega
      constructor
      · rintro ((q | ⟨i, i1, i2⟩) | (q | ⟨i, i1, i2⟩))
        · exact Or.inl (Or.inl q)
        · exact Or.inl (Or.inr ⟨i, by omega, i2⟩)
        · exact Or.inr (Or.inl q)
        · exact Or.inr (Or.inr ⟨i, by omega, i2⟩)
      · have key : ∀ z, SNv D z → (M z ∨ OnP r tw t k z) → (M z ∨ OnL r tw t j z) ∨ (M (tw z) ∨ OnL r tw t j (tw z)) := by
          intro z sz q
          rcases q with q | ⟨i, i1, i2⟩
          · exact Or.inl (Or.inl q)
          · by_cases e : i < j
            · exact Or.inl (Or.inr ⟨i, e, i2⟩)
            · have ei : i = k := by omega
              rcases i2 with i2 | i2
              · cases k with
                | zero =>
                  rw [ei] at i2
                  rw [i2] at sz
                  exact absurd sz hn
                | succ k =>
                  right; right
                  refine ⟨k, by omega, Or.inr ?_⟩
                  rw [i2, ei, itr, (hph.2 _ (hw.1 k (by omega))).2.2.1]
              · rw [i2, ei, hw.2.2] at sz
                exact absurd sz hw.2.1
        rintro (q | q)
        · have := key _ sv q
          have e : tw (1000 + 2 * v) = 1000 + 2 * v + 1 := by rw [tw_e]; omega
          rw [e] at this
          exact this
        · have := key _ sv' q
          have e : tw (1000 + 2 * v + 1) = 1000 + 2 * v := by rw [tw_e]; omega
          rw [e] at this
          exact Or.comm.mp this
    · have hx := hw.1 j (by omega)
      have hx' := hx
      unfold SNv at hx'
      have h60 := h.2.2.2.1
      have hp : pt (r (itr r tw j t)) = r (itr r tw j t) + 600 := by
        unfold pt
        rw [if_neg (by omega), if_pos (by omega)]
      have hst : ¬ (f_X1_isStanding (I (pt (r (itr r tw j t)))) = 0) := by
        unfold f_X1_isStanding
        rw [if_pos ⟨(Ile' (1600) (1600) (by omega) (by omega) (by omega) (by omega)).mpr (by omega), (Ilt (1720) (1720) (by omega) (by omega) (by omega) (by omega)).mpr (by omega)⟩]
        decide
      rw [if_pos ⟨(Ilt (60) (60) (by omega) (by omega) (by omega) (by omega)).mpr (by omega), hst⟩, c_passN h hJ hx h4, Option.bind_some, show I (j : Int) + (1 : Int32) = I ((j + 1 : Nat) : Int) by rw [show (1 : Int32) = I 1 from rfl, I_add]; rfl]
      refine ih (j + 1) M _ (by omega) (by omega) (by rw [seti2, h3]) (fun c hc => by rw [seti_r hc, h4 c hc]) (fun v v0 v1 => ?_)
      rw [seti1]
      have sv : SNv D (1000 + 2 * v) := by unfold SNv; omega
      by_cases e : v = (r (itr r tw j t) - 1000) / 2
      · rw [if_pos ⟨rfl, by rw [e]⟩]
        refine ⟨fun _ => rfl, fun q => ?_⟩
        exfalso
        apply q
        rw [e, nm_tw (by omega)]
        exact Or.inl (Or.inr ⟨j, by omega, Or.inr rfl⟩)
      · rw [if_neg (by omega)]
        have hv := h5 v v0 v1
        have key : ∀ z, SNv D z → (z - 1000) / 2 = v → OnL r tw t (j + 1) z → OnL r tw t j z ∨ OnL r tw t j (tw z) := by
          intro z sz ez q
          rcases onl_suc.mp q with q | q | q
          · exact Or.inl q
          · cases j with
            | zero =>
              rw [q] at sz
              exact absurd sz hn
            | succ j =>
              right
              refine ⟨j, by omega, Or.inr ?_⟩
              rw [q, itr, (hph.2 _ (hw.1 j (by omega))).2.2.1]
          · exfalso
            rw [q] at ez
            exact e ez.symm
        have ee : NmM (fun z => M z ∨ OnL r tw t (j + 1) z) v ↔ NmM (fun z => M z ∨ OnL r tw t j z) v := by
          have ev : v = (1000 + 2 * v - 1000) / 2 := by omega
          have et : tw (1000 + 2 * v) = 1000 + 2 * v + 1 := by rw [tw_e]; omega
          have et' : tw (1000 + 2 * v + 1) = 1000 + 2 * v := by rw [tw_e]; omega
          have sv' : SNv D (1000 + 2 * v + 1) := by unfold SNv; omega
          unfold NmM
          constructor
          · rintro ((q | q) | (q | q))
            · exact Or.inl (Or.inl q)
            · rcases key _ sv (by omega) q with w | w
              · exact Or.inl (Or.inr w)
              · rw [et] at w; exact Or.inr (Or.inr w)
            · exact Or.inr (Or.inl q)
            · rcases key _ sv' (by omega) q with w | w
              · exact Or.inr (Or.inr w)
              · rw [et'] at w; exact Or.inl (Or.inr w)
          · rintro ((q | ⟨i, i1, i2⟩) | (q | ⟨i, i1, i2⟩))
            · exact Or.inl (Or.inl q)
            · exact Or.inl (Or.inr ⟨i, by omega, i2⟩)
            · exact Or.inr (Or.inl q)
            · exact Or.inr (Or.inr ⟨i, by omega, i2⟩)
        exact ⟨fun q => hv.1 (ee.mp q), fun q => hv.2 (fun w => q (ee.mpr w))⟩
theorem c_far (h : ShtH B D Ou r) (hF : 10000 ≤ F) (hJ : CJ B D Ou r σ) {t y : Int} {k : Nat} (ht : Dmv B D Ou t) (hn : ¬ SNv D t) (hk : k ≤ 60) (hw : Way r tw (SNv D) t k y) {M : Int → Prop} (hM : MkC D σ M) : ∃ g', f_X1_farCode F (I (pt t)) σ = some (I (fcd y), g') ∧ g'.2 = σ.2 ∧ (∀ c, c ≠ 7 → g'.1 c = σ.1 c) ∧ MkC D g' (fun z => M z ∨ OnP r tw t k z) := by
  have hp := pt_t h ht hn
  have hpy := pt_t h (way_rev (sh_ph h) ht hn hw).1 hw.2.1
  obtain ⟨g', a1, a2, a3, a4⟩ := c_far_L (F := F) h hJ ht hn hk hw F 0 M σ (by omega) (by omega) rfl (fun _ _ => rfl) (mkc_iff hM (fun v _ _ => by
    constructor
    · rintro (q | q)
      · exact Or.inl (Or.inl q)
      · exact Or.inr (Or.inl q)
    · rintro ((q | ⟨i, i1, _⟩) | (q | ⟨i, i1, _⟩))
      · exact Or.inl q
      · omega
      · exact Or.inr q
      · omega))
  refine ⟨g', ?_, a2, a3, a4⟩
  have a1' : f_X1_farCode_L23 F F (I (pt (r t))) (0 : Int32) σ = some (I (pt y), g') := a1
  unfold f_X1_farCode f_X11_isInside
  rw [if_pos (⟨(Ile' (0) (0) (by omega) (by omega) (by omega) (by omega)).mpr (by omega), (Ilt (1728) (1728) (by omega) (by omega) (by omega) (by omega)).mpr (by omega)⟩ : (0 : Int32) ≤ I (pt t) ∧ I (pt t) < (1728 : Int32)), Option.bind_some, if_neg (show ¬ ((1 : Int32) = 0) by decide), if_pos ((I_inb (by omega) (by omega)).mpr ⟨by omega, by omega⟩), show ix (I (pt t)) = (pt t).toNat from I_ix (by omega) (by omega), hJ t ht, Option.bind_some, a1', Option.bind_some]
  unfold fcd
  rcases hpy with q | q
  · rw [if_neg (show ¬ ((1720 : Int32) ≤ I (pt y)) from fun w => by have := (Ile' (1720) (1720) (by omega) (by omega) (by omega) (by omega)).mp w; omega), if_pos q.1]
  · rw [if_pos (show (1720 : Int32) ≤ I (pt y) from (Ile' (1720) (1720) (by omega) (by omega) (by omega) (by omega)).mpr (by omega)), if_neg (by omega)]
    unfold f_X11_endCode
    rw [show I (pt y) - (1720 : Int32) = I (pt y - 1720) by rw [show (1720 : Int32) = I 1720 from rfl, I_sub], show (-2 : Int32) - I (pt y - 1720) = I (-2 - (pt y - 1720)) by rw [show (-2 : Int32) = I (-2) from rfl, I_sub]]
    rfl
end SHT
