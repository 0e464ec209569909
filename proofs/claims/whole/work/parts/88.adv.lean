section ATU
variable {n : Int} {ch : Int → Int} {τ : St} {F : Nat}
/-- the next token's number -/
def nx (N k : Int) : Int := if k + 1 < N then k + 1 else k
def AtM (n : Int) (ch : Int → Int) (K : TkT) (N k : Int) (τ : St) : Prop := (TxM n ch τ ∧ τ.1 0 2 = I (-1)) ∧ 0 ≤ k ∧ k < N ∧ RfT (kT K k) (kS K k) (kW K k) (kE K k) τ
def AtC (K : TkT) (N k : Int) (σ : St) : Prop := (TkC K N σ ∧ σ.1 1 7 = I (-1)) ∧ 0 ≤ k ∧ k < N ∧ σ.1 9 5 = I k ∧ σ.1 9 7 = I (kT K k) ∧ σ.1 9 8 = I (kS K k) ∧ σ.2 9 9 = kW K k
variable {K : TkT} {N k : Int} {σ : St}
theorem m_take_nx (hA : TxA n ch) (hF : 10000 ≤ F) (hK : Tks n ch K N) (h : AtM n ch K N k τ) : ∃ g, f_X12_take F τ = some g ∧ FrT τ g ∧ AtM n ch K N (nx N k) g := by
  obtain ⟨⟨hM, hp2⟩, k0, k1, hR⟩ := h
  have hp : ∀ g, FrT τ g → g.1 0 2 = I (-1) := fun g q => by rw [q.2.1 2 (by omega) (by omega) (by omega) (by omega) (by omega)]; exact hp2
  obtain ⟨N1, N2, hT, hL, hB0, hB⟩ := hK
  unfold nx
  by_cases hk : k + 1 < N
  · rw [if_pos hk]
    have hkt := hT k k0 (by omega)
    by_cases hl : k + 1 = N - 1
    · have hb := hB k k0 hk
      rw [hl, hL.2.1] at hb
      obtain ⟨g, g1, g2, g3⟩ := m_take_end hA hF (by omega) hb hM hR.2.2.1 (kW K (N - 1))
      refine ⟨g, g1, g2, ⟨frt_x g2 hM, hp g g2⟩, by omega, by omega, ?_⟩
      rw [hl, hL.1, hL.2.1, hL.2.2]
      exact g3
    · have hb := hB k k0 hk
      have ht := hT (k + 1) (by omega) (by omega)
      obtain ⟨g, g1, g2, g3⟩ := m_take_tok hA hF (by omega) hb ht.2.1 ht.2.2.2.1 ht.2.2.2.2 hM hR.2.2.1
      exact ⟨g, g1, g2, ⟨frt_x g2 hM, hp g g2⟩, by omega, by omega, g3⟩
  · rw [if_neg hk]
    have hl : k = N - 1 := by omega
    have hn := hA.1
    have h31 := hR.2.2.1
    rw [hl, hL.2.2] at h31
    obtain ⟨g, g1, g2, g3⟩ := m_take_end (e := n) hA hF hn ⟨Int.le_refl _, fun l p q => by omega⟩ hM h31 (kW K (N - 1))
    refine ⟨g, g1, g2, ⟨frt_x g2 hM, hp g g2⟩, by omega, by omega, ?_⟩
    rw [hl, hL.1, hL.2.1, hL.2.2]
    exact g3
/-- the first take() -/
theorem m_take_0 (hA : TxA n ch) (hF : 10000 ≤ F) (hK : Tks n ch K N) (hM : TxM n ch τ) (hp2 : τ.1 0 2 = I (-1)) (h31 : τ.1 0 31 = I 0) : ∃ g, f_X12_take F τ = some g ∧ FrT τ g ∧ AtM n ch K N 0 g := by
  have hp : ∀ g, FrT τ g → g.1 0 2 = I (-1) := fun g q => by rw [q.2.1 2 (by omega) (by omega) (by omega) (by omega) (by omega)]; exact hp2
  obtain ⟨N1, N2, hT, hL, hB0, hB⟩ := hK
  by_cases hl : N = 1
  · rw [show (0 : Int) = N - 1 by omega] at hB0
    rw [hL.2.1] at hB0
    rw [show N - 1 = (0 : Int) by omega] at hB0
    obtain ⟨g, g1, g2, g3⟩ := m_take_end hA hF (Int.le_refl _) hB0 hM h31 (kW K 0)
    refine ⟨g, g1, g2, ⟨frt_x g2 hM, hp g g2⟩, by omega, by omega, ?_⟩
    rw [show N - 1 = (0 : Int) by omega] at hL
    rw [hL.1, hL.2.1, hL.2.2]
    exact g3
  · have ht := hT 0 (by omega) (by omega)
    obtain ⟨g, g1, g2, g3⟩ := m_take_tok hA hF (Int.le_refl _) hB0 ht.2.1 ht.2.2.2.1 ht.2.2.2.2 hM h31
    exact ⟨g, g1, g2, ⟨frt_x g2 hM, hp g g2⟩, by omega, by omega, g3⟩
/-- what advance() leaves alone -/
def FrV (σ g : St) : Prop := (∀ c, c ≠ 9 → g.1 c = σ.1 c) ∧ (∀ j, j ≠ 5 → j ≠ 7 → j ≠ 8 → g.1 9 j = σ.1 9 j) ∧ (∀ c, c ≠ 9 → g.2 c = σ.2 c) ∧ ∀ j, j ≠ 9 → g.2 9 j = σ.2 9 j
theorem c_adv (hkk : TkC K N σ ∧ σ.1 1 7 = I (-1)) (n1 : 1 ≤ N) (n2 : N ≤ 4001) (k0 : -1 ≤ k) (k1 : k < N) (h5 : σ.1 9 5 = I k) : ∃ g, f_X9_advance σ = some g ∧ FrV σ g ∧ AtC K N (nx N k) g := by
  have hk := hkk.1
  have hx : f_J9_min_7cf53 ((σ.1 9 5) + (1 : Int32)) ((σ.1 9 4) - (1 : Int32)) = I (nx N k) := by
    rw [h5, hk.1, show I k + (1 : Int32) = I (k + 1) by rw [show (1 : Int32) = I 1 from rfl, I_add], show I N - (1 : Int32) = I (N - 1) by rw [show (1 : Int32) = I 1 from rfl, I_sub]]
    unfold f_J9_min_7cf53 nx
    by_cases h : k + 1 < N
    · rw [if_pos ((I_le (by omega) (by omega) (by omega) (by omega)).mpr (by omega)), if_pos h]
    · rw [if_neg (fun q => by have := (I_le (by omega) (by omega) (by omega) (by omega)).mp q; omega), if_neg h, show N - 1 = k by omega]
  have b0 : 0 ≤ nx N k := by unfold nx; split <;> omega
  have b1 : nx N k < N := by unfold nx; split <;> omega
  have q := hk.2 (nx N k) b0 b1
  unfold f_X9_advance
  rw [Option.bind_some, hx]
  generalize nx N k = z at *
  have qz : (0 : Int32) ≤ I z ∧ I z ≤ (4000 : Int32) := ⟨(I_le (a := 0) (by omega) (by omega) (by omega) (by omega)).mpr b0, (I_le (b := 4000) (by omega) (by omega) (by omega) (by omega)).mpr (by omega)⟩
  have hin : inb (I z) 4001 = true := (I_inb (by omega) (by omega)).mpr ⟨by omega, by omega⟩
  have hix : ix (I z) = z.toNat := I_ix (by omega) (by omega)
  rw [if_pos qz, Option.bind_some, if_pos hin, Option.bind_some, if_pos hin, Option.bind_some, if_pos hin, Option.bind_some, hix]
  have c1 : ∀ v w u : Int32, ∀ c, c ≠ 9 → (seti (seti (seti σ 9 5 u) 9 7 v) 9 8 w).1 c = σ.1 c := fun v w u c a => by rw [seti_r a, seti_r a, seti_r a]
  refine ⟨_, rfl, ⟨fun c a => ?_, fun j a b d => ?_, fun c a => setl_r a, fun j a => ?_⟩, ⟨⟨?_, fun j a b => ?_⟩, by rw [setl1, c1 _ _ _ 1 (by omega)]; exact hkk.2⟩, b0, b1, ?_, ?_, ?_, ?_⟩
  · rw [setl1, c1 _ _ _ c a]
  · rw [setl1, seti1, if_neg (by omega), seti1, if_neg (by omega), seti1, if_neg (by omega)]
  · rw [setl2, if_neg (by omega)]; rfl
  · rw [setl1, seti1, if_neg (by omega), seti1, if_neg (by omega), seti1, if_neg (by omega)]; exact hk.1
  · rw [setl1, c1 _ _ _ 11 (by omega), c1 _ _ _ 12 (by omega), setl_r (by omega)]
    exact hk.2 j a b
  · rw [setl1, seti1, if_neg (by omega), seti1, if_neg (by omega), seti1, if_pos ⟨rfl, rfl⟩]
  · rw [setl1, seti1, if_neg (by omega), seti1, if_pos ⟨rfl, rfl⟩, seti_r (by omega)]; exact q.1
  · rw [setl1, seti1, if_pos ⟨rfl, rfl⟩, seti_r (by omega), seti_r (by omega)]; exact q.2.1
  · rw [setl2, if_pos ⟨rfl, rfl⟩]; exact q.2.2
end ATU
