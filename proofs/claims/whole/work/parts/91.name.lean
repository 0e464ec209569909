/-! what is joined in a draft; names -/
def Vok (x : Int) : Prop := (0 ≤ x ∧ x < 1120) ∨ (1200 ≤ x ∧ x < 1210 ∧ 1 ≤ (x - 1200) % 5)
def pt (x : Int) : Int := if x < 1000 then 8 * (x / 5) + x % 5 else if x < 1200 then x + 600 else 1720 + 4 * ((x - 1200) / 5) + (x - 1200) % 5 - 1
theorem ptv_b {x : Int} (h : Vok x) : 0 ≤ pt x ∧ pt x < 1728 := by
  unfold pt
  unfold Vok at h
  split
  · omega
  · split <;> omega
theorem ptv_inj {x y : Int} (hx : Vok x) (hy : Vok y) (e : pt x = pt y) : x = y := by
  unfold pt at e
  unfold Vok at hx hy
  split at e
  · split at e
    · omega
    · split at e <;> omega
  · split at e
    · split at e
      · omega
      · split at e <;> omega
    · split at e
      · omega
      · split at e <;> omega
def JR (A : Int → Prop) (σ τ : St) : Prop := ∃ J : Int → Int, ∀ x, A x → Vok x ∧ A (J x) ∧ J (J x) = x ∧ J x ≠ x ∧ σ.1 3 (pt x).toNat = I (pt (J x)) ∧ τ.1 29 x.toNat = I (J x)
theorem jr_iff {A A' : Int → Prop} {σ τ : St} (h : JR A σ τ) (e : ∀ x, A' x ↔ A x) : JR A' σ τ := by
  obtain ⟨J, hJ⟩ := h
  exact ⟨J, fun x hx => by
    have := hJ x ((e x).mp hx)
    exact ⟨this.1, (e _).mpr this.2.1, this.2.2⟩⟩
theorem jr_fr {A : Int → Prop} {σ τ σ' τ' : St} (h : JR A σ τ) (e : σ'.1 3 = σ.1 3) (e' : τ'.1 29 = τ.1 29) : JR A σ' τ' := by
  obtain ⟨J, hJ⟩ := h
  exact ⟨J, fun x hx => by rw [e, e']; exact hJ x hx⟩
theorem c_join_any (p q : Int32) (σ : St) : ∃ g, f_X1_join p q σ = some g ∧ (∀ c, c ≠ 3 → g.1 c = σ.1 c) ∧ g.2 = σ.2 := by
  obtain ⟨a, rfl, a1, a2⟩ := I_ex p
  obtain ⟨b, rfl, b1, b2⟩ := I_ex q
  unfold f_X1_join f_X11_isInside
  by_cases ha : 0 ≤ a ∧ a < 1728
  · by_cases hb : 0 ≤ b ∧ b < 1728
    · simp (maxSteps := 4000000) (disch := omega) only [I_lits, nz, nc, if_pos, if_neg, if_true, if_false, Option.bind_some, true_and, and_true, and_self, or_true, true_or, or_false, false_or, not_true_eq_false, not_false_eq_true, false_and, and_false, Bool.false_eq_true, decide_true, decide_false, eq_self, ha, hb]
      exact ⟨_, rfl, fun c e => by rw [seti_r e, seti_r e], rfl⟩
    · simp (maxSteps := 4000000) (disch := omega) only [I_lits, nz, nc, if_pos, if_neg, if_true, if_false, Option.bind_some, true_and, and_true, and_self, or_true, true_or, or_false, false_or, not_true_eq_false, not_false_eq_true, false_and, and_false, Bool.false_eq_true, decide_true, decide_false, eq_self, ha, hb]
      exact ⟨σ, rfl, fun _ _ => rfl, rfl⟩
  · simp (maxSteps := 4000000) (disch := omega) only [I_lits, nz, nc, if_pos, if_neg, if_true, if_false, Option.bind_some, true_and, and_true, and_self, or_true, true_or, or_false, false_or, not_true_eq_false, not_false_eq_true, false_and, and_false, Bool.false_eq_true, decide_true, decide_false, eq_self, ha]
    exact ⟨σ, rfl, fun _ _ => rfl, rfl⟩
theorem c_join {x y : Int} (hx : Vok x) (hy : Vok y) (σ : St) : f_X1_join (I (pt x)) (I (pt y)) σ = some (seti (seti σ 3 (pt x).toNat (I (pt y))) 3 (pt y).toNat (I (pt x))) := by
  have a := ptv_b hx
  have b := ptv_b hy
  generalize pt x = p at *
  generalize pt y = q at *
  unfold f_X1_join f_X11_isInside
  simp (maxSteps := 4000000) (disch := omega) only [I_lits, nz, nc, if_pos, if_neg, if_true, if_false, Option.bind_some, true_and, and_true, and_self, or_true, true_or, or_false, false_or, not_true_eq_false, not_false_eq_true, false_and, and_false, Bool.false_eq_true, decide_true, decide_false, eq_self, a, b]
theorem m_join {x y : Int} (x0 : 0 ≤ x) (x1 : x < 1211) (y0 : 0 ≤ y) (y1 : y < 1211) (τ : St) : f_X12_join (I x) (I y) τ = some (seti (seti τ 29 x.toNat (I y)) 29 y.toNat (I x)) := by
  unfold f_X12_join
  simp (maxSteps := 4000000) (disch := omega) only [I_lits, nz, nc, if_pos, if_neg, if_true, if_false, Option.bind_some, true_and, and_true, and_self, or_true, true_or, or_false, false_or, not_true_eq_false, not_false_eq_true, false_and, and_false, Bool.false_eq_true, decide_true, decide_false, eq_self]
theorem vok_b {x : Int} (h : Vok x) : 0 ≤ x ∧ x < 1211 := by
  unfold Vok at h
  omega
theorem jr_join {A : Int → Prop} {σ τ : St} {x y : Int} (h : JR A σ τ) (ax : ¬ A x) (ay : ¬ A y) (e : x ≠ y) (hx : Vok x) (hy : Vok y) : JR (fun z => A z ∨ z = x ∨ z = y) (seti (seti σ 3 (pt x).toNat (I (pt y))) 3 (pt y).toNat (I (pt x))) (seti (seti τ 29 x.toNat (I y)) 29 y.toNat (I x)) := by
  obtain ⟨J, hJ⟩ := h
  have bx := ptv_b hx
  have by' := ptv_b hy
  have cx := vok_b hx
  have cy := vok_b hy
  have exy : pt x ≠ pt y := fun q => e (ptv_inj hx hy q)
  refine ⟨fun z => if z = x then y else if z = y then x else J z, fun z hz => ?_⟩
  by_cases zx : z = x
  · subst zx
    have q1 : (fun w => if w = z then y else if w = y then z else J w) z = y := if_pos rfl
    have q2 : (fun w => if w = z then y else if w = y then z else J w) y = z := by
      show (if y = z then y else if y = y then z else J y) = z
      rw [if_neg (fun q => e q.symm), if_pos rfl]
    rw [q1, q2]
    refine ⟨hx, Or.inr (Or.inr rfl), rfl, fun q => e q.symm, ?_, ?_⟩
    · rw [seti1, if_neg (by omega), seti1, if_pos ⟨rfl, rfl⟩]
    · rw [seti1, if_neg (by omega), seti1, if_pos ⟨rfl, rfl⟩]
  · by_cases zy : z = y
    · subst zy
      have q1 : (fun w => if w = x then z else if w = z then x else J w) z = x := by
        show (if z = x then z else if z = z then x else J z) = x
        rw [if_neg zx, if_pos rfl]
      have q2 : (fun w => if w = x then z else if w = z then x else J w) x = z := if_pos rfl
      rw [q1, q2]
      refine ⟨hy, Or.inr (Or.inl rfl), rfl, e, ?_, ?_⟩
      · rw [seti1, if_pos ⟨rfl, rfl⟩]
      · rw [seti1, if_pos ⟨rfl, rfl⟩]
    · have hz' : A z := by
        rcases hz with q | q | q
        · exact q
        · exact absurd q zx
        · exact absurd q zy
      have hh := hJ z hz'
      have q1 : (fun w => if w = x then y else if w = y then x else J w) z = J z := by
        show (if z = x then y else if z = y then x else J z) = J z
        rw [if_neg zx, if_neg zy]
      have jx : J z ≠ x := fun q => ax (by rw [← q]; exact hh.2.1)
      have jy : J z ≠ y := fun q => ay (by rw [← q]; exact hh.2.1)
      have q2 : (fun w => if w = x then y else if w = y then x else J w) (J z) = J (J z) := by
        show (if J z = x then y else if J z = y then x else J (J z)) = J (J z)
        rw [if_neg jx, if_neg jy]
      rw [q1, q2]
      have bz := ptv_b hh.1
      have cz := vok_b hh.1
      have e1 : pt z ≠ pt x := fun q => zx (ptv_inj hh.1 hx q)
      have e2 : pt z ≠ pt y := fun q => zy (ptv_inj hh.1 hy q)
      refine ⟨hh.1, Or.inl hh.2.1, hh.2.2.1, hh.2.2.2.1, ?_, ?_⟩
      · rw [seti1, if_neg (by omega), seti1, if_neg (by omega)]; exact hh.2.2.2.2.1
      · rw [seti1, if_neg (by omega), seti1, if_neg (by omega)]; exact hh.2.2.2.2.2
def Vx (B : BkT) (D : DrT) (x : Int) : Prop := (0 ≤ x ∧ x < 1000 ∧ x / 5 < Dna D ∧ x % 5 < Bpt B (Dak D (x / 5))) ∨ (1000 ≤ x ∧ x < 1120 ∧ (x - 1000) / 2 < Dnn D ∧ (x - 1000) % 2 < Dtm D ((x - 1000) / 2))
theorem vx_ok {B : BkT} {D : DrT} {x : Int} (h : Vx B D x) : Vok x ∧ x < 1120 := by
  unfold Vx at h
  unfold Vok
  rcases h with h | h <;> omega
def Al2 (D : DrT) : Prop := ∀ n, 0 ≤ n → n < Dnn D → Dtm D n ≤ 2
def DXt (D D' : DrT) : Prop := Dna D ≤ Dna D' ∧ (∀ a, 0 ≤ a → a < Dna D → Dak D' a = Dak D a ∧ Dap D' a = Dap D a) ∧ Dnn D ≤ Dnn D' ∧ ∀ n, 0 ≤ n → n < Dnn D → Dtm D n ≤ Dtm D' n
theorem dx_rfl (D : DrT) : DXt D D := ⟨Int.le_refl _, fun _ _ _ => ⟨rfl, rfl⟩, Int.le_refl _, fun _ _ _ => Int.le_refl _⟩
theorem dx_tr {D D' D'' : DrT} (h : DXt D D') (h' : DXt D' D'') : DXt D D'' := by
  refine ⟨Int.le_trans h.1 h'.1, fun a x y => ?_, Int.le_trans h.2.2.1 h'.2.2.1, fun m x y => ?_⟩
  · have := h.1
    have q := h'.2.1 a x (by omega)
    rw [q.1, q.2]
    exact h.2.1 a x y
  · have := h.2.2.1
    exact Int.le_trans (h.2.2.2 m x y) (h'.2.2.2 m x (by omega))
theorem dx_al {D D' : DrT} (h : DXt D D') (h2 : Al2 D') : Al2 D := fun m x y => by
  have := h.2.2.1
  exact Int.le_trans (h.2.2.2 m x y) (h2 m x (by omega))
theorem dx_v {B : BkT} {D D' : DrT} (h : DXt D D') {x : Int} (hx : Vx B D x) : Vx B D' x := by
  obtain ⟨h1, h2, h3, h4⟩ := h
  rcases hx with ⟨a, b, c, d⟩ | ⟨a, b, c, d⟩
  · refine Or.inl ⟨a, b, by omega, ?_⟩
    rw [(h2 (x / 5) (by omega) c).1]; exact d
  · refine Or.inr ⟨a, b, by omega, ?_⟩
    have := h4 ((x - 1000) / 2) (by omega) c
    omega
/-! frames of the places in the text -/
theorem atc_fr {K : TkT} {N k : Int} {σ g : St} (h : AtC K N k σ) (e : ∀ c, c = 1 ∨ c = 9 ∨ c = 11 ∨ c = 12 → g.1 c = σ.1 c) (e2 : ∀ c, c = 9 ∨ c = 13 → g.2 c = σ.2 c) : AtC K N k g := by
  unfold AtC TkC
  rw [e 1 (by omega), e 9 (by omega), e 11 (by omega), e 12 (by omega), e2 9 (by omega), e2 13 (by omega)]
  exact h
theorem atc_fr' {K : TkT} {N k : Int} {σ g : St} (h : AtC K N k σ) (e : ∀ c, c = 9 ∨ c = 11 ∨ c = 12 → g.1 c = σ.1 c) (e1 : g.1 1 7 = σ.1 1 7) (e2 : ∀ c, c = 9 ∨ c = 13 → g.2 c = σ.2 c) : AtC K N k g := by
  unfold AtC TkC
  rw [e1, e 9 (by omega), e 11 (by omega), e 12 (by omega), e2 9 (by omega), e2 13 (by omega)]
  exact h
theorem atm_fr {n : Int} {ch : Int → Int} {K : TkT} {N k : Int} {τ g : St} (h : AtM n ch K N k τ) (e : g.1 1 = τ.1 1) (e0 : ∀ j, j = 1 ∨ j = 2 ∨ (29 ≤ j ∧ j ≤ 34) → g.1 0 j = τ.1 0 j) (e2 : g.2 0 32 = τ.2 0 32) : AtM n ch K N k g := by
  unfold AtM TxM RfT
  rw [e, e0 1 (by omega), e0 2 (by omega), e0 29 (by omega), e0 30 (by omega), e0 31 (by omega), e0 33 (by omega), e0 34 (by omega), e2]
  exact h
/-! a name stands -/
def IsN (D : DrT) (W : Int64) (m : Int) : Prop := 0 ≤ m ∧ m ≤ Dnn D ∧ (∀ i, 0 ≤ i → i < m → Dnm D i ≠ W) ∧ (m < Dnn D → Dnm D m = W)
theorem isn_ex (D : DrT) (W : Int64) (h : 0 ≤ Dnn D) : ∃ m, IsN D W m := by
  have key : ∀ k : Nat, (k : Int) ≤ Dnn D → (∃ m, IsN D W m) ∨ ∀ i, 0 ≤ i → i < (k : Int) → Dnm D i ≠ W := by
    intro k
    induction k with
    | zero => intro _; exact Or.inr (fun i a b => by omega)
    | succ k ih =>
      intro hk
      rcases ih (by omega) with q | q
      · exact Or.inl q
      · by_cases e : Dnm D k = W
        · exact Or.inl ⟨k, by omega, by omega, q, fun _ => e⟩
        · refine Or.inr (fun i a b => ?_)
          by_cases w : i = k
          · rw [w]; exact e
          · exact q i a (by omega)
  rcases key (Dnn D).toNat (by omega) with q | q
  · exact q
  · exact ⟨Dnn D, h, Int.le_refl _, fun i a b => q i a (by omega), fun w => by omega⟩
def tN (D : DrT) (m : Int) : Int := if m = Dnn D then 0 else Dtm D m
def addN (D : DrT) (m : Int) (W : Int64) : DrT := (Dna D, Dak D, Dap D, if m = Dnn D then Dnn D + 1 else Dnn D, fun i => if i = m then W else Dnm D i, fun i => if i = m then tN D m + 1 else Dtm D i)
def vN (D : DrT) (m : Int) : Int := if tN D m < 2 then 1000 + 2 * m + tN D m else 1210
section NAM
variable {n : Int} {ch : Int → Int} {K : TkT} {N : Int} {B : BkT} {L : Int} {σ0 τ0 : St} {kc km : Int} {D : DrT} {σ τ : St} {F : Nat} {W : Int64} {m : Int}
theorem addN_v (hm : IsN D W m) (h60 : m < 60) (hV : 0 ≤ tN D m) (h2 : Al2 (addN D m W)) : pt (vN D m) = 1600 + 2 * m + tN D m ∧ tN D m < 2 ∧ Vx B (addN D m W) (vN D m) ∧ ¬ Vx B D (vN D m) ∧ ∀ x, Vx B (addN D m W) x ↔ Vx B D x ∨ x = vN D m := by
  have e1 : Dtm (addN D m W) m = tN D m + 1 := if_pos rfl
  have e2 : Dnn (addN D m W) = if m = Dnn D then Dnn D + 1 else Dnn D := rfl
  have m0 := hm.1
  have m1 := hm.2.1
  have e3 : m < Dnn (addN D m W) := by
    rw [e2]; split <;> omega
  have ht : tN D m < 2 := by
    have := h2 m hm.1 e3
    omega
  have ev : vN D m = 1000 + 2 * m + tN D m := if_pos ht
  have ep : pt (vN D m) = 1600 + 2 * m + tN D m := by
    rw [ev]; unfold pt
    rw [if_neg (by omega), if_pos (by omega)]; omega
  have key : ∀ x, Vx B (addN D m W) x ↔ Vx B D x ∨ x = vN D m := by
    intro x
    rw [ev]
    have e4 : ∀ i, Dtm (addN D m W) i = if i = m then tN D m + 1 else Dtm D i := fun _ => rfl
    have e5 : Dna (addN D m W) = Dna D := rfl
    have e6 : Dak (addN D m W) = Dak D := rfl
    unfold Vx
    rw [e5, e6, e2, e4]
    by_cases hx : (x - 1000) / 2 = m
    · rw [if_pos hx, hx]
      by_cases hmm : m = Dnn D
      · have ht0 : tN D m = 0 := if_pos hmm
        rw [if_pos hmm, ht0]
        constructor
        · rintro (q | q)
          · exact Or.inl (Or.inl q)
          · exact Or.inr (by omega)
        · rintro ((q | q) | q)
          · exact Or.inl q
          · omega
          · exact Or.inr (by omega)
      · have ht0 : tN D m = Dtm D m := if_neg hmm
        rw [if_neg hmm, ht0]
        rw [ht0] at ht hV
        constructor
        · rintro (q | q)
          · exact Or.inl (Or.inl q)
          · by_cases w : (x - 1000) % 2 = Dtm D m
            · exact Or.inr (by omega)
            · exact Or.inl (Or.inr (by omega))
        · rintro ((q | q) | q)
          · exact Or.inl q
          · exact Or.inr (by omega)
          · exact Or.inr (by omega)
    · rw [if_neg hx]
      constructor
      · rintro (q | q)
        · exact Or.inl (Or.inl q)
        · refine Or.inl (Or.inr ⟨q.1, q.2.1, ?_, q.2.2.2⟩)
          have := q.2.2.1
          split at this <;> omega
      · rintro ((q | q) | q)
        · exact Or.inl q
        · refine Or.inr ⟨q.1, q.2.1, ?_, q.2.2.2⟩
          have := q.2.2.1
          split <;> omega
        · omega
  refine ⟨ep, ht, (key _).mpr (Or.inr rfl), ?_, key⟩
  rw [ev]
  unfold Vx
  rintro (q | q)
  · omega
  · have q3 : (1000 + 2 * m + tN D m - 1000) / 2 = m := by omega
    rw [q3] at q
    have ht0 : tN D m = Dtm D m := if_neg (by omega)
    rw [← ht0] at q
    omega
theorem addN_x (hm : IsN D W m) : DXt D (addN D m W) := by
  refine ⟨Int.le_refl _, fun _ _ _ => ⟨rfl, rfl⟩, ?_, fun i a b => ?_⟩
  · show Dnn D ≤ if m = Dnn D then Dnn D + 1 else Dnn D
    split <;> omega
  · show Dtm D i ≤ if i = m then tN D m + 1 else Dtm D i
    by_cases e : i = m
    · rw [if_pos e]
      unfold tN
      rw [if_neg (by omega), e]; omega
    · rw [if_neg e]; exact Int.le_refl _
/-- the class' number of a name -/
theorem c_nameNumber (hF : 10000 ≤ F) (hD : DrC D σ) (h60 : Dnn D ≤ 60) (hm : IsN D W m) : (m = 60 → f_X1_nameNumber F W σ = some (I (-1), σ)) ∧ (m < 60 → ∃ g, f_X1_nameNumber F W σ = some (I m, g) ∧ (∀ c, c ≠ 2 → c ≠ 6 → c ≠ 7 → g.1 c = σ.1 c) ∧ (∀ c, c ≠ 5 → g.2 c = σ.2 c) ∧ (g.1 2 5 = I (Dna D) ∧ g.1 2 7 = σ.1 2 7) ∧ g.1 2 6 = I (Dnn (addN D m W)) ∧ g.1 6 m.toNat = I (tN D m) ∧ ∀ i, 0 ≤ i → i < Dnn (addN D m W) → g.2 5 i.toNat = Dnm (addN D m W) i ∧ (i ≠ m → g.1 6 i.toNat = I (Dtm D i)) ∧ g.1 7 i.toNat = I 0) := by
  obtain ⟨m0, m1, m2, m3⟩ := hm
  have loop : ∀ (k0 : Unit → Option (Int32 × St)) (f : Nat) (v : Int), 0 ≤ v → v ≤ m → m - v < f → f_X1_nameNumber_L2 F W σ k0 f (I v) = if m < Dnn D then some (I m, σ) else k0 () := by
    intro k0 f
    induction f with
    | zero => intro v a b c; omega
    | succ f ih =>
      intro v a b c
      rw [f_X1_nameNumber_L2, hD.2.1]
      by_cases hv : v < Dnn D
      · have hn := (hD.2.2.2 v a hv).1
        simp (maxSteps := 4000000) (disch := omega) only [I_lits, nz, nc, if_pos, if_neg, if_true, if_false, Option.bind_some, true_and, and_true, and_self, or_true, true_or, or_false, false_or, not_true_eq_false, not_false_eq_true, false_and, and_false, Bool.false_eq_true, decide_true, decide_false, eq_self, hn, lgI]
        by_cases e : v = m
        · rw [if_pos (by rw [e]; exact m3 (by omega)), if_pos (by omega), e]
        · rw [if_neg (m2 v a (by omega))]
          exact ih (v + 1) (by omega) (by omega) (by omega)
      · rw [if_neg (fun q => hv ((I_lt (by omega) (by omega) (by omega) (by omega)).mp q.1)), if_neg (by omega)]
  unfold f_X1_nameNumber
  have hl := fun k0 => loop k0 F 0 (Int.le_refl _) m0 (by omega)
  have hl' : ∀ k0, f_X1_nameNumber_L2 F W σ k0 F (0 : Int32) = if m < Dnn D then some (I m, σ) else k0 () := hl
  constructor
  · intro e
    rw [hl', if_neg (by omega), hD.2.1, if_pos ((Ile' (60) (60) (by omega) (by omega) (by omega) (by omega)).mpr (by omega))]
    rfl
  · intro e
    rw [hl']
    have e2 : Dnn (addN D m W) = if m = Dnn D then Dnn D + 1 else Dnn D := rfl
    have e4 : ∀ i, Dnm (addN D m W) i = if i = m then W else Dnm D i := fun _ => rfl
    by_cases hmm : m < Dnn D
    · rw [if_pos hmm]
      refine ⟨σ, rfl, fun _ _ _ _ => rfl, fun _ _ => rfl, ⟨hD.1, rfl⟩, ?_, ?_, fun i a b => ?_⟩
      · rw [e2, if_neg (by omega)]; exact hD.2.1
      · unfold tN
        rw [if_neg (by omega)]; exact (hD.2.2.2 m m0 hmm).2.1
      · rw [e2, if_neg (by omega)] at b
        have := hD.2.2.2 i a b
        refine ⟨?_, fun _ => this.2.1, this.2.2⟩
        rw [e4]
        by_cases w : i = m
        · rw [if_pos w, this.1, w]; exact m3 hmm
        · rw [if_neg w]; exact this.1
    · rw [if_neg hmm]
      have em : m = Dnn D := by omega
      have s1 : (setl σ 5 (Dnn D).toNat W).1 2 6 = I (Dnn D) := hD.2.1
      have s2 : (seti (setl σ 5 (Dnn D).toNat W) 6 (Dnn D).toNat (I 0)).1 2 6 = I (Dnn D) := by rw [seti_r (by omega)]; exact s1
      have s3 : (seti (seti (setl σ 5 (Dnn D).toNat W) 6 (Dnn D).toNat (I 0)) 7 (Dnn D).toNat (I 0)).1 2 6 = I (Dnn D) := by rw [seti_r (by omega)]; exact s2
      have s4 : (seti (seti (seti (setl σ 5 (Dnn D).toNat W) 6 (Dnn D).toNat (I 0)) 7 (Dnn D).toNat (I 0)) 2 6 (I (Dnn D + 1))).1 2 6 = I (Dnn D + 1) := by rw [seti1, if_pos ⟨rfl, rfl⟩]
      simp (maxSteps := 4000000) (disch := omega) only [I_lits, nz, nc, if_pos, if_neg, if_true, if_false, Option.bind_some, true_and, and_true, and_self, or_true, true_or, or_false, false_or, not_true_eq_false, not_false_eq_true, false_and, and_false, Bool.false_eq_true, decide_true, decide_false, eq_self, hD.2.1, s1, s2, s3, s4]
      refine ⟨_, by rw [show Dnn D + 1 - 1 = m by omega], fun c a b d => ?_, fun c a => ?_, ?_, ?_, ?_, fun i a b => ?_⟩
      · rw [seti_r a, seti_r d, seti_r b]; rfl
      · rw [seti2, seti2, seti2, setl_r a]
      · refine ⟨?_, ?_⟩
        · rw [seti1, if_neg (by omega), seti_r (by omega), seti_r (by omega)]; exact hD.1
        · rw [seti1, if_neg (by omega), seti_r (by omega), seti_r (by omega)]; rfl
      · rw [s4, e2, if_pos em]
      · rw [seti_r (by omega), seti_r (by omega), seti1, if_pos ⟨rfl, by rw [em]⟩]
        unfold tN
        rw [if_pos em]
      · rw [e2, if_pos em] at b
        rw [e4, seti2, seti2, seti2, seti_r (show (7 : Nat) ≠ 2 by omega), seti_r (show (6 : Nat) ≠ 2 by omega), seti_r (show (6 : Nat) ≠ 7 by omega), setl2, seti1, seti1]
        by_cases w : i = m
        · rw [if_pos w, if_pos ⟨rfl, by rw [w, em]⟩, if_pos ⟨rfl, by rw [w, em]⟩]
          exact ⟨rfl, fun q => absurd w q, if_pos ⟨rfl, by rw [w, em]⟩⟩
        · have := hD.2.2.2 i a (by omega)
          rw [if_neg w, if_neg (by omega), if_neg (by omega), if_neg (by omega), seti_r (show (7 : Nat) ≠ 6 by omega)]
          exact ⟨this.1, fun _ => this.2.1, this.2.2⟩
/-- the reference's number of a name, and its standing -/
theorem m_useName (hF : 10000 ≤ F) (hD : DrM L D τ) (hV : DrV B L kc D) (hkc : kc < 100000) (hW : τ.2 0 32 = W) (hm : IsN D W m) : (m = 60 → f_X12_useName F τ = some (I (-1), τ)) ∧ (m < 60 → ∃ g, f_X12_useName F τ = some (I (vN D m), g) ∧ (∀ c, c ≠ 0 → c ≠ 31 → g.1 c = τ.1 c) ∧ (∀ j, j ≠ 54 → g.1 0 j = τ.1 0 j) ∧ (∀ c, c ≠ 30 → g.2 c = τ.2 c) ∧ DrM L (addN D m W) g) := by
  obtain ⟨m0, m1, m2, m3⟩ := hm
  have h60 := hV.2.2.2.2.1
  have loop : ∀ (f : Nat) (v : Int), 0 ≤ v → v ≤ m → m - v < f → f_X12_useName_L2 F τ f (I v) = some (I m) := by
    intro f
    induction f with
    | zero => intro v a b c; omega
    | succ f ih =>
      intro v a b c
      rw [f_X12_useName_L2, hD.2.2.1, hW]
      by_cases hv : v < Dnn D
      · have hn := (hD.2.2.2.2 v a hv).1
        simp (maxSteps := 4000000) (disch := omega) only [I_lits, nz, nc, if_pos, if_neg, if_true, if_false, Option.bind_some, true_and, and_true, and_self, or_true, true_or, or_false, false_or, not_true_eq_false, not_false_eq_true, false_and, and_false, Bool.false_eq_true, decide_true, decide_false, eq_self, hn, lgI]
        by_cases e : v = m
        · rw [if_pos (by rw [e]; exact m3 (by omega)), e]
        · rw [if_neg (m2 v a (by omega))]
          exact ih (v + 1) (by omega) (by omega) (by omega)
      · rw [if_neg (fun q => hv ((I_lt (by omega) (by omega) (by omega) (by omega)).mp q)), show v = m by omega]
  have hl : f_X12_useName_L2 F τ F (0 : Int32) = some (I m) := loop F 0 (Int.le_refl _) m0 (by omega)
  constructor
  · intro e
    unfold f_X12_useName
    rw [hl, Option.bind_some, e]
    rfl
  · intro e
    have e2 : Dnn (addN D m W) = if m = Dnn D then Dnn D + 1 else Dnn D := rfl
    have e4 : ∀ i, Dnm (addN D m W) i = if i = m then W else Dnm D i := fun _ => rfl
    have e5 : ∀ i, Dtm (addN D m W) i = if i = m then tN D m + 1 else Dtm D i := fun _ => rfl
    have tb : 0 ≤ tN D m ∧ tN D m < 100000 := by
      unfold tN
      split
      · omega
      · have := hV.2.2.2.2.2 m m0 (by omega)
        omega
    -- the state where the name has its number
    have mid : ∃ t, (if m = Dnn D then some (seti (seti (setl τ 30 m.toNat W) 31 m.toNat (I 0)) 0 54 (I (Dnn D + 1))) else some τ) = some t ∧ (∀ c, c ≠ 0 → c ≠ 31 → t.1 c = τ.1 c) ∧ (∀ j, j ≠ 54 → t.1 0 j = τ.1 0 j) ∧ (∀ c, c ≠ 30 → t.2 c = τ.2 c) ∧ t.1 0 54 = I (Dnn (addN D m W)) ∧ t.1 31 m.toNat = I (tN D m) ∧ ∀ i, 0 ≤ i → i < Dnn (addN D m W) → t.2 30 i.toNat = Dnm (addN D m W) i ∧ (i ≠ m → t.1 31 i.toNat = I (Dtm D i)) := by
      by_cases em : m = Dnn D
      · rw [if_pos em]
        refine ⟨_, rfl, fun c a b => ?_, fun j a => ?_, fun c a => ?_, ?_, ?_, fun i a b => ?_⟩
        · rw [seti_r a, seti_r b]; rfl
        · rw [seti1, if_neg (by omega), seti_r (by omega)]; rfl
        · rw [seti2, seti2, setl_r a]
        · rw [seti1, if_pos ⟨rfl, rfl⟩, e2, if_pos em]
        · rw [seti_r (by omega), seti1, if_pos ⟨rfl, rfl⟩]
          unfold tN
          rw [if_pos em]
        · rw [e2, if_pos em] at b
          rw [e4, seti2, seti2, setl2, seti_r (show (31 : Nat) ≠ 0 by omega), seti1]
          by_cases w : i = m
          · rw [if_pos w, if_pos ⟨rfl, by rw [w]⟩]
            exact ⟨rfl, fun q => absurd w q⟩
          · have := hD.2.2.2.2 i a (by omega)
            rw [if_neg w, if_neg (by omega), if_neg (by omega)]
            exact ⟨this.1, fun _ => this.2⟩
      · rw [if_neg em]
        refine ⟨τ, rfl, fun _ _ _ => rfl, fun _ _ => rfl, fun _ _ => rfl, ?_, ?_, fun i a b => ?_⟩
        · rw [e2, if_neg em]; exact hD.2.2.1
        · unfold tN
          rw [if_neg em]; exact (hD.2.2.2.2 m m0 (by omega)).2
        · rw [e2, if_neg em] at b
          have := hD.2.2.2.2 i a b
          refine ⟨?_, fun _ => this.2⟩
          rw [e4]
          by_cases w : i = m
          · rw [if_pos w, this.1, w]; exact m3 (by omega)
          · rw [if_neg w]; exact this.1
    obtain ⟨t, t1, t2, t3, t4, t5, t6, t7⟩ := mid
    refine ⟨seti t 31 m.toNat (I (tN D m + 1)), ?_, fun c a b => ?_, fun j a => ?_, fun c a => ?_, ?_, ?_, ?_, fun a x y => ?_, fun i a b => ?_⟩
    · unfold f_X12_useName
      rw [hl, Option.bind_some, hD.2.2.1, hW]
      have r1 : (if I m = I (Dnn D) then (if inb (I m) 60 = true then (Option.bind (some (setl τ 30 (ix (I m)) W)) fun s15 => if inb (I m) 60 = true then (Option.bind (some (seti s15 31 (ix (I m)) (0 : Int32))) fun s17 => Option.bind (some (seti s17 0 54 ((s17.1 0 54) + (1 : Int32)))) fun s18 => some s18) else none) else none) else some τ) = some t := by
        have e0 : (seti (setl τ 30 m.toNat W) 31 m.toNat (I 0)).1 0 54 = I (Dnn D) := by rw [seti_r (by omega)]; exact hD.2.2.1
        by_cases em : m = Dnn D
        · rw [if_pos em] at t1
          simp (maxSteps := 4000000) (disch := omega) only [I_lits, nz, nc, if_pos, if_neg, if_true, if_false, Option.bind_some, true_and, and_true, and_self, or_true, true_or, or_false, false_or, not_true_eq_false, not_false_eq_true, false_and, and_false, Bool.false_eq_true, decide_true, decide_false, eq_self, em]
          rw [em] at t1 e0
          rw [e0, ← t1]
          simp (maxSteps := 4000000) (disch := omega) only [I_lits, nz, nc, if_pos, if_neg, if_true, if_false, Option.bind_some, true_and, and_true, and_self, or_true, true_or, or_false, false_or, not_true_eq_false, not_false_eq_true, false_and, and_false, Bool.false_eq_true, decide_true, decide_false, eq_self]
        · rw [if_neg em] at t1
          simp (maxSteps := 4000000) (disch := omega) only [I_lits, nz, nc, if_pos, if_neg, if_true, if_false, Option.bind_some, true_and, and_true, and_self, or_true, true_or, or_false, false_or, not_true_eq_false, not_false_eq_true, false_and, and_false, Bool.false_eq_true, decide_true, decide_false, eq_self, em]
          exact t1
      rw [if_neg (fun q => by have := (Ieq (60) (60) (by omega) (by omega) (by omega) (by omega)).mp q; omega), r1, Option.bind_some]
      by_cases h2 : tN D m < 2
      · have ev : vN D m = 1000 + 2 * m + tN D m := if_pos h2
        rw [ev]
        simp (maxSteps := 4000000) (disch := omega) only [I_lits, nz, nc, if_pos, if_neg, if_true, if_false, Option.bind_some, true_and, and_true, and_self, or_true, true_or, or_false, false_or, not_true_eq_false, not_false_eq_true, false_and, and_false, Bool.false_eq_true, decide_true, decide_false, eq_self, t6]
      · have ev : vN D m = 1210 := if_neg h2
        rw [ev]
        simp (maxSteps := 4000000) (disch := omega) only [I_lits, nz, nc, if_pos, if_neg, if_true, if_false, Option.bind_some, true_and, and_true, and_self, or_true, true_or, or_false, false_or, not_true_eq_false, not_false_eq_true, false_and, and_false, Bool.false_eq_true, decide_true, decide_false, eq_self, t6]
    · rw [seti_r b]; exact t2 c a b
    · rw [seti_r (by omega)]; exact t3 j a
    · rw [seti2]; exact t4 c a
    · rw [seti_r (by omega), t3 49 (by omega)]; exact hD.1
    · rw [seti_r (by omega), t3 50 (by omega)]; exact hD.2.1
    · rw [seti_r (by omega)]; exact t5
    · rw [seti_r (by omega), seti_r (by omega), t2 27 (by omega) (by omega), t2 28 (by omega) (by omega)]
      exact hD.2.2.2.1 a x y
    · rw [seti2, seti1, e5]
      have := t7 i a b
      refine ⟨this.1, ?_⟩
      by_cases w : i = m
      · rw [if_pos ⟨rfl, by rw [w]⟩, if_pos w]
      · rw [if_neg (by omega), if_neg w]; exact this.2 w
end NAM
