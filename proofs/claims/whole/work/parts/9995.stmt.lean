/-! one statement of a text -/
def FrRg (σ g : St) : Prop := (∀ c, c = 0 ∨ c = 10 ∨ 31 ≤ c → g.1 c = σ.1 c) ∧ g.1 9 6 = σ.1 9 6 ∧ ∀ c, c ≠ 5 → c ≠ 9 → c ≠ 13 → c ≠ 16 → g.2 c = σ.2 c
def FrQg (τ g : St) : Prop := (∀ c, (1 ≤ c ∧ c ≤ 16) ∨ 40 ≤ c → g.1 c = τ.1 c) ∧ (∀ j, j ≤ 28 ∧ j ≠ 2 → g.1 0 j = τ.1 0 j) ∧ (∀ c, c ≠ 0 → c ≠ 17 → c ≠ 30 → g.2 c = τ.2 c) ∧ (∀ j, j ≠ 32 → g.2 0 j = τ.2 0 j) ∧ (B20 τ → B20 g)
theorem frr_tr {a b c : St} (h : FrRg a b) (h' : FrRg b c) : FrRg a c := ⟨fun x q => by rw [h'.1 x q, h.1 x q], by rw [h'.2.1, h.2.1], fun x p q r s => by rw [h'.2.2 x p q r s, h.2.2 x p q r s]⟩
theorem frq_tr {a b c : St} (h : FrQg a b) (h' : FrQg b c) : FrQg a c := ⟨fun x q => by rw [h'.1 x q, h.1 x q], fun j q => by rw [h'.2.1 j q, h.2.1 j q], fun x p q r => by rw [h'.2.2.1 x p q r, h.2.2.1 x p q r], fun j q => by rw [h'.2.2.2.1 j q, h.2.2.2.1 j q], fun p => h'.2.2.2.2 (h.2.2.2.2 p)⟩
theorem frr_k {σ g : St} (h : FrK σ g) : FrRg σ g := ⟨fun c q => h.1 c (by omega) (by omega) (by omega) (by omega) (by omega), h.2.2.1, fun c _ a _ b => h.2.2.2 c a b⟩
theorem frq_l {τ g : St} (h : FrL τ g) : FrQg τ g := ⟨fun c q => h.1 c (by omega) (by omega) (by omega) (by omega), fun j q => h.2.1 j (by omega), fun c a b _ => h.2.2.1 c a b, h.2.2.2.1, h.2.2.2.2⟩
theorem frr_n {σ g : St} (h : FrNc σ g) : FrRg σ g := ⟨fun c q => h.1 c (by omega), h.2.2.1, fun c a b _ _ => h.2.2.2 c a b⟩
theorem frq_n {τ g : St} (h : FrNm τ g) : FrQg τ g := ⟨fun c q => h.1 c (by omega), fun j q => h.2.1 j (by omega), fun c a _ b => h.2.2.1 c a b, h.2.2.2, fun p j q => by rw [h.1 20 (by omega)]; exact p j q⟩
theorem frr_u {σ g : St} (h : FrUc σ g) : FrRg σ g := ⟨fun c q => h.1 c (by omega), h.2.2.1, fun c a b _ _ => h.2.2.2 c a b⟩
theorem frq_u {τ g : St} (h : FrUm τ g) : FrQg τ g := ⟨fun c q => h.1 c (by omega), fun j q => h.2.1 j (by omega), fun c a _ b => h.2.2.1 c a b, h.2.2.2, fun p j q => by rw [h.1 20 (by omega)]; exact p j q⟩
theorem frq_t {τ g : St} (h : FrT τ g) : FrQg τ g := frq_n (frnm_e (fre_t h))
def FltG (σ0 τ0 σ τ : St) : Prop := FrRg σ0 σ ∧ FrQg τ0 τ ∧ ∃ c z : Int, 1 ≤ c ∧ c ≤ 7 ∧ σ.1 1 4 = I c ∧ τ.1 0 35 = I c ∧ σ.1 1 7 = I z ∧ τ.1 0 2 = I z
theorem fltg_go {σ0 τ0 σ τ : St} (h1 : FrRg σ0 σ) (h2 : FrQg τ0 τ) {c z : Int} (c1 : 1 ≤ c) (c7 : c ≤ 7) : FltG σ0 τ0 (seti (seti σ 1 4 (I c)) 1 7 (I z)) (seti (seti τ 0 35 (I c)) 0 2 (I z)) :=
  ⟨frr_tr h1 (frr_u (fruc_tr (fruc_i (by omega)) (fruc_i (by omega)))), frq_tr h2 (frq_u (frum_tr (frum_i (by omega)) (frum_i (by omega)))), c, z, c1, c7, by rw [seti1, if_neg (by omega), seti1, if_pos ⟨rfl, rfl⟩], by rw [seti1, if_neg (by omega), seti1, if_pos ⟨rfl, rfl⟩], by rw [seti1, if_pos ⟨rfl, rfl⟩], by rw [seti1, if_pos ⟨rfl, rfl⟩]⟩
def BkS (B : BkT) (σ τ : St) : Prop := KdV B ∧ Dis B ∧ KdC B (σ.1 15) (σ.2 16) (σ.1 17) (σ.1 18) ∧ KdM B (τ.1 0 36) (τ.2 17) (τ.1 18) (τ.1 19) (τ.1 20) ∧ RuV B ∧ RuC B (σ.1 19) (σ.1 20) (σ.1 21) (σ.1 22) (σ.1 23) (σ.1 24) (σ.1 25) (σ.1 26) ∧ RuM B (τ.1 0 41) (τ.1 21) (τ.1 22) (τ.1 23) (τ.1 24) (τ.1 25) (τ.1 26) ∧ RuF B σ τ
def NtS (B : BkT) (σ τ : St) : Prop := ∃ (f : Int) (Nt : NtT) (c : Int), (f = 0 ∨ f = 1) ∧ σ.1 1 3 = I f ∧ τ.1 0 48 = I f ∧ NetV B Nt ∧ NtC B Nt σ 27 ∧ MNet B Nt c τ ∧ (f = 0 → ∀ a, 0 ≤ a → a < 400 → Nk Nt a = -1)
def RdS (n : Int) (ch : Int → Int) (K : TkT) (N : Int) (σ0 τ0 : St) (B : BkT) (k : Int) (σ τ : St) : Prop := AtC K N k σ ∧ AtM n ch K N k τ ∧ FrRg σ0 σ ∧ FrQg τ0 τ ∧ σ.1 1 4 = I 0 ∧ BkS B σ τ ∧ NtS B σ τ
theorem bks_fr {B : BkT} {σ τ g u : St} (h : BkS B σ τ) (e : ∀ c, 15 ≤ c ∧ c ≤ 26 → g.1 c = σ.1 c) (e2 : g.2 16 = σ.2 16) (m : ∀ c, 18 ≤ c ∧ c ≤ 26 → u.1 c = τ.1 c) (m0 : ∀ j, j = 36 ∨ j = 41 → u.1 0 j = τ.1 0 j) (m2 : u.2 17 = τ.2 17) : BkS B g u := by
  unfold BkS RuF
  rw [e 15 (by omega), e 17 (by omega), e 18 (by omega), e 19 (by omega), e 20 (by omega), e 21 (by omega), e 22 (by omega), e 23 (by omega), e 24 (by omega), e 25 (by omega), e 26 (by omega), e2, m 18 (by omega), m 19 (by omega), m 20 (by omega), m 21 (by omega), m 22 (by omega), m 23 (by omega), m 24 (by omega), m 25 (by omega), m 26 (by omega), m0 36 (by omega), m0 41 (by omega), m2]
  exact h
theorem mnet_fr {B : BkT} {Nt : NtT} {c : Int} {τ u : St} (h : MNet B Nt c τ) (m : ∀ c, 37 ≤ c ∧ c ≤ 39 → u.1 c = τ.1 c) (m0 : ∀ j, j = 63 ∨ j = 66 ∨ j = 68 → u.1 0 j = τ.1 0 j) : MNet B Nt c u := by
  unfold MNet
  rw [m 37 (by omega), m 38 (by omega), m 39 (by omega), m0 63 (by omega), m0 66 (by omega), m0 68 (by omega)]
  exact h
theorem nts_fr {B : BkT} {σ τ g u : St} (h : NtS B σ τ) (e : ∀ c, 27 ≤ c ∧ c ≤ 30 → g.1 c = σ.1 c) (e1 : g.1 1 3 = σ.1 1 3) (m : ∀ c, 37 ≤ c ∧ c ≤ 39 → u.1 c = τ.1 c) (m0 : ∀ j, j = 48 ∨ j = 63 ∨ j = 66 ∨ j = 68 → u.1 0 j = τ.1 0 j) : NtS B g u := by
  obtain ⟨f, Nt, c, h1, h2, h3, h4, h5, h6, h7⟩ := h
  exact ⟨f, Nt, c, h1, by rw [e1]; exact h2, by rw [m0 48 (by omega)]; exact h3, h4, ntc_fr h5 (fun a x y => e a (by omega)), mnet_fr h6 m (fun j q => m0 j (by omega)), h7⟩
section ABX
variable {B : BkT} {W : Int64} {q : Int} {so : Int → Int} {σ τ g u : St}
theorem ab_pt {k : Int} (h : k < Bkn B) : Bpt (addB B W q so) k = Bpt B k := if_neg (by omega)
theorem ab_rl (hR : RuV B) {r t : Int} (r0 : 0 ≤ r) (r1 : r < Brn B) : RLiv (addB B W q so) r t ↔ RLiv B r t := by
  have ra : Bra (addB B W q so) r = Bra B r := rfl
  have rk : ∀ j, Brk (addB B W q so) j = Brk B j := fun _ => rfl
  have rs : ∀ j, Brs (addB B W q so) j = Brs B j := fun _ => rfl
  have h4 := hR.2.2.2.1 r r0 r1
  unfold RLiv
  rw [ra, rk, rs]
  constructor
  · rintro (w | w)
    · have := hR.2.2.2.2.1 r (t / 5) r0 r1 (by omega) w.2.2.1
      rw [ab_pt this.2] at w
      exact Or.inl w
    · have : Brs B (2 * r + (t - 60) / 5) < Bkn B := by
        by_cases e : (t - 60) / 5 = 0
        · rw [e, Int.add_zero]; exact h4.2.2.2.1
        · rw [show (t - 60) / 5 = 1 by omega]; exact h4.2.2.2.2.2
      rw [ab_pt this] at w
      exact Or.inr w
  · rintro (w | w)
    · have := hR.2.2.2.2.1 r (t / 5) r0 r1 (by omega) w.2.2.1
      rw [ab_pt this.2]
      exact Or.inl w
    · have : Brs B (2 * r + (t - 60) / 5) < Bkn B := by
        by_cases e : (t - 60) / 5 = 0
        · rw [e, Int.add_zero]; exact h4.2.2.2.1
        · rw [show (t - 60) / 5 = 1 by omega]; exact h4.2.2.2.2.2
      rw [ab_pt this]
      exact Or.inr w
theorem ab_nl {Nt : NtT} (hN : NetV B Nt) (x : Int) : NLiv (addB B W q so) Nt x ↔ NLiv B Nt x := by
  unfold NLiv
  constructor
  · rintro (w | w)
    · exact Or.inl w
    · have := hN.2.2.1 (x / 5) (by omega) (by omega)
      rw [ab_pt this.2] at w
      exact Or.inr w
  · rintro (w | w)
    · exact Or.inl w
    · have := hN.2.2.1 (x / 5) (by omega) (by omega)
      rw [ab_pt this.2]
      exact Or.inr w
theorem ab_bks (h : BkS B σ τ) (k16 : Bkn B < 16) (q1 : 1 ≤ q) (q5 : q ≤ 5) (hso : ∀ p, 0 ≤ p → p < q → -26 ≤ so p ∧ so p < 26) (hW : ∀ i, 0 ≤ i → i < Bkn B → Bnm B i ≠ W) (e : ∀ c, 19 ≤ c ∧ c ≤ 26 → g.1 c = σ.1 c) (m : ∀ c, 21 ≤ c ∧ c ≤ 26 → u.1 c = τ.1 c) (m0 : u.1 0 41 = τ.1 0 41) (hC : KdC (addB B W q so) (g.1 15) (g.2 16) (g.1 17) (g.1 18)) (hM : KdM (addB B W q so) (u.1 0 36) (u.2 17) (u.1 18) (u.1 19) (u.1 20)) : BkS (addB B W q so) g u := by
  obtain ⟨h1, h2, _, _, h5, h6, h7, h8⟩ := h
  have kn : Bkn (addB B W q so) = Bkn B + 1 := rfl
  have rn : Brn (addB B W q so) = Brn B := rfl
  have k0 := h1.1
  refine ⟨⟨?_, ?_, fun k a b => ?_, fun k p a b c d => ?_⟩, fun i j a b c d w => ?_, hC, hM, ?_, ?_, ?_, ?_⟩
  · rw [kn]; omega
  · rw [kn]; omega
  · rw [kn] at b
    show 1 ≤ (if k = Bkn B then q else Bpt B k) ∧ (if k = Bkn B then q else Bpt B k) ≤ 5
    by_cases w : k = Bkn B
    · rw [if_pos w]; exact ⟨q1, q5⟩
    · rw [if_neg w]; exact h1.2.2.1 k a (by omega)
  · rw [kn] at b
    have d' : p < if k = Bkn B then q else Bpt B k := d
    show -26 ≤ (if 5 * Bkn B ≤ 5 * k + p then so (5 * k + p - 5 * Bkn B) else Bso B (5 * k + p)) ∧ (if 5 * Bkn B ≤ 5 * k + p then so (5 * k + p - 5 * Bkn B) else Bso B (5 * k + p)) < 26
    by_cases w : k = Bkn B
    · rw [if_pos w] at d'
      rw [if_pos (by omega), show 5 * k + p - 5 * Bkn B = p by omega]
      exact hso p c d'
    · rw [if_neg w] at d'
      have := h1.2.2.1 k a (by omega)
      rw [if_neg (by omega)]
      exact h1.2.2.2 k p a (by omega) c d'
  · rw [kn] at b d
    have w' : (if i = Bkn B then W else Bnm B i) = (if j = Bkn B then W else Bnm B j) := w
    by_cases x : i = Bkn B
    · by_cases y : j = Bkn B
      · omega
      · rw [if_pos x, if_neg y] at w'
        exact absurd w'.symm (hW j c (by omega))
    · by_cases y : j = Bkn B
      · rw [if_neg x, if_pos y] at w'
        exact absurd w' (hW i a (by omega))
      · rw [if_neg x, if_neg y] at w'
        exact h2 i j a (by omega) c (by omega) w'
  · obtain ⟨r1, r2, r3, r4, r5, r6⟩ := h5
    refine ⟨r1, r2, fun a b a0 a1 b0 b1 => ?_, fun r x y => ?_, fun r i x y z w => ?_, fun r t x y z => ?_⟩
    · rw [kn] at a1 b1
      show -1 ≤ Bro B (16 * a + b) ∧ Bro B (16 * a + b) < Brn B ∧ _
      by_cases w : a = Bkn B ∨ b = Bkn B
      · have := h8.2 a b a0 (by omega) b0 (by omega) (by omega)
        rw [this]
        refine ⟨by omega, by omega, fun v => ?_⟩
        have v' : 0 ≤ Bro B (16 * a + b) := v
        omega
      · exact r3 a b a0 (by omega) b0 (by omega)
    · have := r4 r x y
      rw [kn]
      exact ⟨this.1, this.2.1, this.2.2.1, by have := this.2.2.2.1; show Brs B (2 * r) < _; omega, this.2.2.2.2.1, by have := this.2.2.2.2.2; show Brs B (2 * r + 1) < _; omega⟩
    · have := r5 r i x y z w
      rw [kn]
      exact ⟨this.1, by have := this.2; show Brk B (12 * r + i) < _; omega⟩
    · have hr : RuV B := ⟨r1, r2, r3, r4, r5, r6⟩
      have := r6 r t x y ((ab_rl hr x y).mp z)
      exact ⟨(ab_rl hr x y).mpr this.1, this.2⟩
  · rw [e 19 (by omega), e 20 (by omega), e 21 (by omega), e 22 (by omega), e 23 (by omega), e 24 (by omega), e 25 (by omega), e 26 (by omega)]
    refine ⟨h6.1, fun a b a0 a1 b0 b1 => ?_, h6.2.2.1, h6.2.2.2.1, fun r t x y z => h6.2.2.2.2.1 r t x y ((ab_rl h5 x y).mp z), fun r t x y z => h6.2.2.2.2.2 r t x y ((ab_rl h5 x y).mp z)⟩
    rw [kn] at a1 b1
    exact (h8.1 a b a0 (by omega) b0 (by omega)).1
  · rw [m 21 (by omega), m 22 (by omega), m 23 (by omega), m 24 (by omega), m 25 (by omega), m 26 (by omega), m0]
    refine ⟨h7.1, fun a b a0 a1 b0 b1 => ?_, h7.2.2.1, h7.2.2.2.1, fun r t x y z => h7.2.2.2.2 r t x y ((ab_rl h5 x y).mp z)⟩
    rw [kn] at a1 b1
    exact (h8.1 a b a0 (by omega) b0 (by omega)).2
  · unfold RuF
    rw [e 20 (by omega), m 21 (by omega)]
    exact ⟨h8.1, fun a b a0 a1 b0 b1 w => h8.2 a b a0 a1 b0 b1 (by rw [kn] at w; omega)⟩
theorem ab_nts (h : NtS B σ τ) (k0 : 0 ≤ Bkn B) : NtS (addB B W q so) σ τ := by
  obtain ⟨f, Nt, c, h1, h2, h3, h4, h5, h6, h7⟩ := h
  have kn : Bkn (addB B W q so) = Bkn B + 1 := rfl
  refine ⟨f, Nt, c, h1, h2, h3, ⟨h4.1, h4.2.1, fun n a b => ?_, fun x hx => ?_⟩, ⟨h5.1, fun x hx => h5.2.1 x ((ab_nl h4 x).mp hx), fun x hx => h5.2.2.1 x ((ab_nl h4 x).mp hx), h5.2.2.2⟩, ⟨h6.1, h6.2.1, h6.2.2.1, h6.2.2.2.1, fun x hx => h6.2.2.2.2.1 x ((ab_nl h4 x).mp hx), fun x hx => h6.2.2.2.2.2.1 x ((ab_nl h4 x).mp hx), h6.2.2.2.2.2.2⟩, h7⟩
  · have := h4.2.2.1 n a b
    rw [kn]; omega
  · have := h4.2.2.2 x ((ab_nl h4 x).mp hx)
    exact ⟨(ab_nl h4 _).mpr this.1, this.2⟩
end ABX
def StO (F : Nat) (n : Int) (ch : Int → Int) (K : TkT) (N : Int) (σ0 τ0 : St) (k : Int) (X : Option St) (Y : Option (Int32 × St)) : Prop :=
  (∃ σ' τ', X = some σ' ∧ Y = some (I 0, τ') ∧ FltG σ0 τ0 σ' τ') ∨ (∃ B' k' σ' τ' τ'', k < k' ∧ X = some σ' ∧ Y = some (I 1, τ') ∧ f_X12_take F τ' = some τ'' ∧ RdS n ch K N σ0 τ0 B' k' σ' τ'')
section STM3
variable {F : Nat} {n : Int} {ch : Int → Int} {K : TkT} {N : Int} {σ0 τ0 : St} {B : BkT} {k : Int} {σ τ : St}
theorem stmt_kind (hA : TxA n ch) (hK : Tks n ch K N) (hF : 10000 ≤ F) (h : RdS n ch K N σ0 τ0 B k σ τ) (hT : kT K k ≠ 1) : StO F n ch K N σ0 τ0 k (f_X6_readKind F σ) (f_X12_readKind F τ) := by
  obtain ⟨h1, h2, h3, h4, h5, h6, h7⟩ := h
  obtain ⟨W, ho, hw⟩ := kind_ok hA hK hF h6.1 h6.2.1 h1 h2 hT h6.2.2.1 h6.2.2.2.1 h5
  rcases ho with ⟨σ', τ', a1, a2, a3⟩ | ⟨q, so, k', σ', τ', a0, a1, a2, a3, a4, a5, a6, a7, a8, a9, a10, a11, a12, a13⟩
  · left
    obtain ⟨b1, b2, b3⟩ := a3
    exact ⟨σ', τ', a1, a2, frr_tr h3 (frr_k b1), frq_tr h4 (frq_l b2), b3⟩
  · right
    have hw' : (∀ i, 0 ≤ i → i < Bkn B → Bnm B i ≠ W) ∧ Bkn B < 16 := by
      rcases hw with ⟨σ2, c1, c2⟩ | c
      · rw [a1] at c1
        have := Option.some.inj c1
        rw [← this] at c2
        exact absurd a10 c2
      · exact c
    obtain ⟨τ'', t1, t2, t3⟩ := m_take_nx hA hF hK a5
    have hk := (tks_T hK a5.2.1 a5.2.2.1).2.1 (by rw [a3]; decide)
    rw [hk.1] at t3
    refine ⟨addB B W q so, k' + 1, σ', τ', τ'', by omega, a1, a2, t1, a4, t3, frr_tr h3 (frr_k a6), frq_tr h4 (frq_tr (frq_l a7) (frq_t t2)), a10, ?_, ?_⟩
    · refine ab_bks h6 hw'.2 a11 a12 a13 hw'.1 (fun c x => a6.1 c (by omega) (by omega) (by omega) (by omega) (by omega)) (fun c x => by rw [t2.1 c (by omega)]; exact a7.1 c (by omega) (by omega) (by omega) (by omega)) (by rw [t2.2.1 41 (by omega) (by omega) (by omega) (by omega) (by omega)]; exact a7.2.1 41 (by omega)) a8 ?_
      rw [t2.2.1 36 (by omega) (by omega) (by omega) (by omega) (by omega), t2.1 18 (by omega), t2.1 19 (by omega), t2.1 20 (by omega), t2.2.2.1 17 (by omega)]
      exact a9
    · exact nts_fr (ab_nts h7 h6.1.1) (fun c x => a6.1 c (by omega) (by omega) (by omega) (by omega) (by omega)) (a6.2.1 3 (by omega) (by omega)) (fun c x => by rw [t2.1 c (by omega)]; exact a7.1 c (by omega) (by omega) (by omega) (by omega)) (fun j x => by rw [t2.2.1 j (by omega) (by omega) (by omega) (by omega) (by omega)]; exact a7.2.1 j (by omega))
end STM3
