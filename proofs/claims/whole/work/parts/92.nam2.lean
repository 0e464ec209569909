section NAN
variable {n : Int} {ch : Int → Int} {K : TkT} {N : Int} {B : BkT} {L : Int} {σ0 τ0 : St} {k kc km : Int} {D : DrT} {σ τ : St} {F : Nat} {W : Int64} {m : Int}
theorem c_stand {t : Int} (m0 : 0 ≤ m) (m1 : m < 60) (t0 : 0 ≤ t) (t1 : t < 100000) (h : σ.1 6 m.toNat = I t) : f_X1_stand (I m) σ = some (I (if t < 2 then 1600 + 2 * m + t else -1), seti σ 6 m.toNat (I (t + 1))) := by
  have e1 : (seti σ 6 m.toNat (I (t + 1))).1 6 m.toNat = I (t + 1) := by rw [seti1, if_pos ⟨rfl, rfl⟩]
  unfold f_X1_stand
  by_cases ht : t < 2
  · simp (maxSteps := 4000000) (disch := omega) only [I_lits, nz, nc, if_pos, if_neg, if_true, if_false, Option.bind_some, true_and, and_true, and_self, or_true, true_or, or_false, false_or, not_true_eq_false, not_false_eq_true, false_and, and_false, Bool.false_eq_true, decide_true, decide_false, eq_self, h, e1]
    rw [show 1600 + 2 * m + (t + 1) - 1 = 1600 + 2 * m + t by omega]
  · simp (maxSteps := 4000000) (disch := omega) only [I_lits, nz, nc, if_pos, if_neg, if_true, if_false, Option.bind_some, true_and, and_true, and_self, or_true, true_or, or_false, false_or, not_true_eq_false, not_false_eq_true, false_and, and_false, Bool.false_eq_true, decide_true, decide_false, eq_self, h, e1]
def EqR (τ τ' : St) : Prop := ∀ c, c = 29 ∨ (32 ≤ c ∧ c ≤ 36) → τ'.1 c = τ.1 c
theorem name_ok (E : EnvH F n ch K N B L σ0 τ0) (h : Rel n ch K N B L σ0 τ0 k k D σ τ) (hT : kT K k = 2) {p : Int} (p0 : 0 ≤ p) (p1 : p < 12) : (f_X6_readName F (I p) σ = some (I (-1), seti (seti σ 1 4 (I 4)) 1 7 (I (kS K k))) ∧ f_X12_useName F τ = some (I (-1), τ)) ∨ ∃ D' v cv σ' τ', f_X6_readName F (I p) σ = some (cv, σ') ∧ f_X12_useName F τ = some (I v, τ') ∧ Rel n ch K N B L σ0 τ0 (k + 1) k D' σ' τ' ∧ DXt D D' ∧ 0 ≤ v ∧ v ≤ 1210 ∧ σ'.1 3 = σ.1 3 ∧ σ'.1 8 = σ.1 8 ∧ EqR τ τ' ∧ Dna D' = Dna D ∧ (Al2 D' → cv = I (pt v) ∧ Vx B D' v ∧ ¬ Vx B D v ∧ ∀ x, Vx B D' x ↔ Vx B D x ∨ x = v) := by
  obtain ⟨h1, h2, h3, h4, h5, h6, h7, h8, h9⟩ := h
  have tks := E.2.1
  have tn := E.1.2.1
  have tN1 := tks.2.1
  have hk := tks_T E.2.1 h1.2.1 h1.2.2.1
  have hk2 := hk.2.1 (by rw [hT]; decide)
  have k0 := h1.2.1
  have hW : σ.2 9 9 = kW K k := h1.2.2.2.2.2.2
  have hW' : τ.2 0 32 = kW K k := (h2.2.2.2.2.2.2.1 (Or.inl hT)).1
  obtain ⟨m, hm⟩ := isn_ex D (kW K k) h5.2.2.2.1
  have m0 := hm.1
  have m1 := hm.2.1
  have n60 := h5.2.2.2.2.1
  have cn := c_nameNumber E.2.2.1 h6 n60 hm
  have mn := m_useName E.2.2.1 h7 h5 (by omega) hW' hm
  have c12 : ¬ ((12 : Int32) ≤ I p) := fun q => by have := (Ile' (12) (12) (by omega) (by omega) (by omega) (by omega)).mp q; omega
  by_cases e : m = 60
  · refine Or.inl ⟨?_, mn.1 e⟩
    unfold f_X6_readName
    rw [if_neg c12, hW, cn.1 e, Option.bind_some, Option.bind_some, if_pos (show I (-1) = (-1 : Int32) from rfl), show (4 : Int32) = I 4 from rfl, c_refuse h1]
    rfl
  · refine Or.inr ?_
    obtain ⟨g1, a1, a2, a3, a4, a5, a6, a7⟩ := cn.2 (by omega)
    obtain ⟨τ', b1, b2, b3, b4, b5⟩ := mn.2 (by omega)
    have at1 : AtC K N k g1 := atc_fr h1 (fun c q => a2 c (by omega) (by omega) (by omega)) (fun c q => a3 c (by omega))
    obtain ⟨g2, d1, d2, d3⟩ := c_adv at1.1 tks.1 (by omega) (by omega) at1.2.2.1 at1.2.2.2.1
    have tb : 0 ≤ tN D m ∧ tN D m ≤ k := by
      unfold tN
      split
      · omega
      · have := h5.2.2.2.2.2 m m0 (by omega)
        omega
    have e6 : g2.1 6 m.toNat = I (tN D m) := by rw [d2.1 6 (by omega)]; exact a6
    have cs := c_stand (σ := g2) m0 (by omega) tb.1 (by omega) e6
    have fr2 : ∀ c, c ≠ 2 → c ≠ 6 → c ≠ 7 → c ≠ 9 → g2.1 c = σ.1 c := fun c x y z w => by rw [d2.1 c w, a2 c x y z]
    have fr3 : ∀ c, c ≠ 2 → c ≠ 6 → c ≠ 7 → c ≠ 9 → (seti g2 6 m.toNat (I (tN D m + 1))).1 c = σ.1 c := fun c x y z w => by rw [seti_r y]; exact fr2 c x y z w
    refine ⟨addN D m (kW K k), vN D m, I (if tN D m < 2 then 1600 + 2 * m + tN D m else -1), seti g2 6 m.toNat (I (tN D m + 1)), τ', ?_, b1, ⟨?_, ?_, ?_, ?_, ?_, ?_, b5, ?_, ?_⟩, addN_x hm, ?_, ?_, ?_, ?_, ?_, rfl, fun q => ?_⟩
    · unfold f_X6_readName
      rw [if_neg c12, hW, a1, Option.bind_some, Option.bind_some, if_neg (fun q => by have := (Ieq (-1) (-1) (by omega) (by omega) (by omega) (by omega)).mp q; omega), d1, Option.bind_some, cs]
      rfl
    · rw [hk2.1] at d3
      exact atc_fr d3 (fun c q => seti_r (by omega)) (fun c q => rfl)
    · exact atm_fr h2 (b2 1 (by omega) (by omega)) (fun j q => b3 j (by omega)) (by rw [b4 0 (by omega)])
    · refine frd_tr h3 (frd_tr (σ := g1) ?_ (frd_tr (frd_v d2) (frd_i (by omega))))
      exact ⟨fun c q => a2 c (by omega) (by omega) (by omega), fun j _ _ _ => by rw [a2 1 (by omega) (by omega) (by omega)], ⟨by rw [a2 9 (by omega) (by omega) (by omega)], a4.2⟩, fun c x y => a3 c x⟩
    · refine fre_tr h4 ⟨fun c q => b2 c (by omega) (by omega), fun j q => b3 j (by omega), fun c x y => b4 c y, fun j x => by rw [b4 0 (by omega)]⟩
    · refine ⟨h5.1, h5.2.1, h5.2.2.1, ?_, ?_, fun i x y => ?_⟩
      · show 0 ≤ if m = Dnn D then Dnn D + 1 else Dnn D
        split <;> omega
      · show (if m = Dnn D then Dnn D + 1 else Dnn D) ≤ 60
        split <;> omega
      · have y' : i < if m = Dnn D then Dnn D + 1 else Dnn D := y
        show 1 ≤ (if i = m then tN D m + 1 else Dtm D i) ∧ (if i = m then tN D m + 1 else Dtm D i) ≤ k + 1
        by_cases w : i = m
        · rw [if_pos w]; omega
        · rw [if_neg w]
          have := h5.2.2.2.2.2 i x (by split at y' <;> omega)
          omega
    · refine ⟨?_, ?_, fun a x y => ?_, fun i x y => ?_⟩
      · rw [seti_r (by omega), d2.1 2 (by omega)]; exact a4.1
      · rw [seti_r (by omega), d2.1 2 (by omega)]; exact a5
      · rw [fr3 4 (by omega) (by omega) (by omega) (by omega)]
        exact h6.2.2.1 a x y
      · have := a7 i x y
        refine ⟨?_, ?_, ?_⟩
        · rw [seti2, d2.2.2.1 5 (by omega)]; exact this.1
        · show _ = I (if i = m then tN D m + 1 else Dtm D i)
          rw [seti1]
          by_cases w : i = m
          · rw [if_pos ⟨rfl, by rw [w]⟩, if_pos w]
          · rw [if_neg (by omega), if_neg w, d2.1 6 (by omega)]; exact this.2.1 w
        · rw [seti_r (by omega), d2.1 7 (by omega)]; exact this.2.2
    · rw [fr3 1 (by omega) (by omega) (by omega) (by omega)]; exact h8
    · rw [fr3 1 (by omega) (by omega) (by omega) (by omega)]; exact h9
    · unfold vN; split <;> omega
    · unfold vN; split <;> omega
    · exact fr3 3 (by omega) (by omega) (by omega) (by omega)
    · exact fr3 8 (by omega) (by omega) (by omega) (by omega)
    · exact fun c q => b2 c (by omega) (by omega)
    · have av := addN_v (B := B) hm (by omega) tb.1 q
      exact ⟨by rw [if_pos av.2.1, av.1], av.2.2⟩
/-- an agent more -/
def addA (D : DrT) (z S : Int) : DrT := (Dna D + 1, fun a => if a = Dna D then z else Dak D a, fun a => if a = Dna D then S else Dap D a, Dnn D, Dnm D, Dtm D)
theorem addA_x {z S : Int} : DXt D (addA D z S) := by
  refine ⟨?_, fun a x y => ⟨if_neg (by omega), if_neg (by omega)⟩, Int.le_refl _, fun _ _ _ => Int.le_refl _⟩
  show Dna D ≤ Dna D + 1
  omega
theorem addA_v {z S : Int} (h0 : 0 ≤ Dna D) (h2 : Dna D < 200) (hp : Bpt B z ≤ 5) (x : Int) : Vx B (addA D z S) x ↔ Vx B D x ∨ (5 * Dna D ≤ x ∧ x < 5 * Dna D + Bpt B z) := by
  have e1 : Dna (addA D z S) = Dna D + 1 := rfl
  have e2 : ∀ a, Dak (addA D z S) a = if a = Dna D then z else Dak D a := fun _ => rfl
  have e3 : Dnn (addA D z S) = Dnn D := rfl
  have e4 : Dtm (addA D z S) = Dtm D := rfl
  unfold Vx
  rw [e1, e2, e3, e4]
  by_cases w : x / 5 = Dna D
  · rw [if_pos w]
    constructor
    · rintro (q | q)
      · exact Or.inr (by omega)
      · exact Or.inl (Or.inr q)
    · rintro ((q | q) | q)
      · omega
      · exact Or.inr q
      · exact Or.inl (by omega)
  · rw [if_neg w]
    constructor
    · rintro (q | q)
      · exact Or.inl (Or.inl ⟨q.1, q.2.1, by omega, q.2.2.2⟩)
      · exact Or.inl (Or.inr q)
    · rintro ((q | q) | q)
      · exact Or.inl ⟨q.1, q.2.1, by omega, q.2.2.2⟩
      · exact Or.inr q
      · omega
theorem rel_agent (E : EnvH F n ch K N B L σ0 τ0) (h : Rel n ch K N B L σ0 τ0 k k D σ τ) {z S : Int} (z0 : 0 ≤ z) (z1 : z < Bkn B) (hL : Dna D < L) : Rel n ch K N B L σ0 τ0 k k (addA D z S) (seti (seti σ 4 (Dna D).toNat (I z)) 2 5 (I (Dna D + 1))) (seti (seti (seti (seti τ 27 (Dna D).toNat (I z)) 28 (Dna D).toNat (I S)) 0 60 (I (5 * Dna D))) 0 49 (I (Dna D + 1))) := by
  obtain ⟨h1, h2, h3, h4, h5, h6, h7, h8, h9⟩ := h
  have n0 := h5.1
  refine ⟨atc_fr h1 (fun c q => by rw [seti_r (by omega), seti_r (by omega)]) (fun c q => rfl), atm_fr h2 (by rw [seti_r (by omega), seti_r (by omega), seti_r (by omega), seti_r (by omega)]) (fun j q => by rw [seti1, if_neg (by omega), seti1, if_neg (by omega), seti_r (by omega), seti_r (by omega)]) rfl, frd_tr h3 (frd_tr (frd_i (by omega)) (frd_i (by omega))), fre_tr h4 (fre_tr (fre_i (by omega)) (fre_tr (fre_i (by omega)) (fre_tr (fre_i (by omega)) (fre_i (by omega))))), ⟨?_, ?_, fun a x y => ?_, h5.2.2.2⟩, ⟨?_, ?_, fun a x y => ?_, fun i x y => ?_⟩, ⟨?_, ?_, ?_, fun a x y => ?_, fun i x y => ?_⟩, ?_, ?_⟩
  · show 0 ≤ Dna D + 1
    omega
  · show Dna D + 1 ≤ L
    omega
  · have y' : a < Dna D + 1 := y
    show 0 ≤ (if a = Dna D then z else Dak D a) ∧ (if a = Dna D then z else Dak D a) < Bkn B
    by_cases w : a = Dna D
    · rw [if_pos w]; exact ⟨z0, z1⟩
    · rw [if_neg w]; exact h5.2.2.1 a x (by omega)
  · rw [seti1, if_pos ⟨rfl, rfl⟩]; rfl
  · rw [seti1, if_neg (by omega), seti_r (by omega)]; exact h6.2.1
  · have y' : a < Dna D + 1 := y
    rw [seti_r (by omega), seti1]
    show _ = I (if a = Dna D then z else Dak D a)
    by_cases w : a = Dna D
    · rw [if_pos ⟨rfl, by rw [w]⟩, if_pos w]
    · rw [if_neg (by omega), if_neg w]; exact h6.2.2.1 a x (by omega)
  · rw [seti_r (by omega), seti_r (by omega), seti_r (by omega), seti_r (by omega)]; exact h6.2.2.2 i x y
  · rw [seti1, if_pos ⟨rfl, rfl⟩]; rfl
  · rw [seti1, if_neg (by omega), seti1, if_neg (by omega), seti_r (by omega), seti_r (by omega)]; exact h7.2.1
  · rw [seti1, if_neg (by omega), seti1, if_neg (by omega), seti_r (by omega), seti_r (by omega)]; exact h7.2.2.1
  · have y' : a < Dna D + 1 := y
    rw [seti_r (by omega), seti_r (by omega), seti_r (by omega), seti_r (show (28 : Nat) ≠ 0 by omega), seti_r (show (28 : Nat) ≠ 0 by omega), seti1, seti1]
    show _ = I (if a = Dna D then z else Dak D a) ∧ _ = I (if a = Dna D then S else Dap D a)
    by_cases w : a = Dna D
    · rw [if_pos ⟨rfl, by rw [w]⟩, if_pos w, if_pos ⟨rfl, by rw [w]⟩, if_pos w]; exact ⟨rfl, rfl⟩
    · rw [if_neg (by omega), if_neg w, if_neg (by omega), if_neg w, seti_r (by omega)]; exact h7.2.2.2.1 a x (by omega)
  · rw [seti_r (by omega), seti_r (by omega), seti_r (by omega), seti_r (by omega)]; exact h7.2.2.2.2 i x y
  · rw [seti_r (by omega), seti_r (by omega)]; exact h8
  · rw [seti_r (by omega), seti_r (by omega)]; exact h9
end NAN
/-! the reference's ways out of a term -/
def tkA : St → Option (Int32 × St) := fun t81 => Option.bind (f_X12_wrong t81) fun x82 => if x82.1 = 0 ∨ x82.1 = 1 then some (x82.1, x82.2) else none
def tkB : St → Option (Int32 × St) := fun t84 => if inb ((t84.1 (0) 49) - (1 : Int32)) 200 then (Option.bind (f_X12_fail (5 : Int32) (t84.1 (28) (ix ((t84.1 (0) 49) - (1 : Int32)))) t84) fun x86 => if x86.1 = 0 ∨ x86.1 = 1 then some (x86.1, x86.2) else none) else none
def tkC : St → Option (Int32 × St) := fun t88 => Option.bind (f_X12_fail (4 : Int32) (t88.1 (0) 30) t88) fun x89 => if x89.1 = 0 ∨ x89.1 = 1 then some (x89.1, x89.2) else none
def tkD : St → Option (Int32 × St) := fun t91 => Option.bind (f_X12_fail (3 : Int32) (t91.1 (0) 30) t91) fun x92 => if x92.1 = 0 ∨ x92.1 = 1 then some (x92.1, x92.2) else none
def tkE : Int32 × St → Option (Int32 × St) := fun t94 => if inb t94.1 200 then (Option.bind (f_X12_fail (5 : Int32) (t94.2.1 (28) (ix t94.1)) t94.2) fun x96 => if x96.1 = 0 ∨ x96.1 = 1 then some (x96.1, x96.2) else none) else none
def RT (F n : Nat) (d : Int) (τ : St) : Option (Int32 × St) := f_X12_readTerm_L2 F tkA tkB tkC tkD tkE tkA tkC n (I d) τ
def RI (F n m : Nat) (d : Int) (w : Int32) (τ : St) : Option (Int32 × St) := f_X12_readTerm_L236 F (fun t38 => f_X12_readTerm_L2 F tkA tkB tkC tkD tkE tkA tkC n t38.1 t38.2) (fun t39 => tkE (t39.1, t39.2)) (fun t40 => tkA t40) m (I d) w τ
theorem rt_top (F : Nat) (τ : St) : f_X12_readTerm F τ = RT F F 0 τ := rfl
section TKS
variable {n : Int} {ch : Int → Int} {K : TkT} {N : Int} {k : Int} {τ : St}
theorem tkA_e (hK : Tks n ch K N) (h : AtM n ch K N k τ) : tkA τ = some (I 0, seti (seti τ 0 35 (I (wc (kT K k)))) 0 2 (I (kS K k))) := by
  unfold tkA
  rw [m_wrong hK h]; rfl
theorem tkC_e (h : AtM n ch K N k τ) : tkC τ = some (I 0, seti (seti τ 0 35 (I 4)) 0 2 (I (kS K k))) := by
  unfold tkC
  rw [h.2.2.2.2.1]; rfl
theorem tkD_e (h : AtM n ch K N k τ) : tkD τ = some (I 0, seti (seti τ 0 35 (I 3)) 0 2 (I (kS K k))) := by
  unfold tkD
  rw [h.2.2.2.2.1]; rfl
theorem tkE_e {a S : Int} (a0 : 0 ≤ a) (a1 : a < 200) (h : τ.1 28 a.toNat = I S) : tkE (I a, τ) = some (I 0, seti (seti τ 0 35 (I 5)) 0 2 (I S)) := by
  unfold tkE
  have e : ix (I a) = a.toNat := I_ix (by omega) (by omega)
  show (if inb (I a) 200 = true then _ else none) = _
  rw [if_pos ((I_inb (by omega) (by omega)).mpr ⟨by omega, by omega⟩), e, h]; rfl
theorem tkB_e {a S : Int} (a0 : 0 ≤ a) (a1 : a < 200) (h0 : τ.1 0 49 = I (a + 1)) (h : τ.1 28 a.toNat = I S) : tkB τ = some (I 0, seti (seti τ 0 35 (I 5)) 0 2 (I S)) := by
  unfold tkB
  have e : ix (I a) = a.toNat := I_ix (by omega) (by omega)
  have e1 : τ.1 0 49 - (1 : Int32) = I a := by rw [h0, show (1 : Int32) = I 1 from rfl, I_sub, show a + 1 - 1 = a by omega]
  rw [e1, if_pos ((I_inb (by omega) (by omega)).mpr ⟨by omega, by omega⟩), e, h]; rfl
end TKS
