section ATV
variable {n : Int} {ch : Int → Int} {τ : St} {F : Nat} {K : TkT} {N k : Int} {σ : St}
/-- what scan() leaves alone -/
def FrN (σ g : St) : Prop := (∀ c, c ≠ 9 → c ≠ 11 → c ≠ 12 → g.1 c = σ.1 c) ∧ (∀ j, j ≠ 4 → j ≠ 5 → j ≠ 7 → j ≠ 8 → g.1 9 j = σ.1 9 j) ∧ (∀ c, c ≠ 13 → c ≠ 9 → g.2 c = σ.2 c) ∧ ∀ j, j ≠ 9 → g.2 9 j = σ.2 9 j
theorem c_scan (hA : TxA n ch) (hF : 10000 ≤ F) (hC : TxC n ch σ) (h17 : σ.1 1 7 = I (-1)) : ∃ g K N, f_X9_scan F σ = some g ∧ FrN σ g ∧ Tks n ch K N ∧ AtC K N 0 g := by
  have h1 := hA.2.1
  have h0 := hA.1
  have e1 : (seti σ 9 4 (0 : Int32)).1 9 6 = I n := by rw [seti1, if_neg (by omega)]; exact hC.1
  have hC1 : TxC n ch (seti σ 9 4 (0 : Int32)) := ⟨e1, fun i a b => by rw [seti_r (by omega)]; exact hC.2 i a b⟩
  let K0 : TkT := (fun _ => 0, fun _ => 0, fun _ => 0, fun _ => 0)
  have t0 : Toks n ch K0 0 0 := ⟨Int.le_refl _, Int.le_refl _, h0, fun j a b => by omega, fun q => absurd q (by omega), fun j a b => by omega, ⟨Int.le_refl _, fun l a b => by omega⟩⟩
  obtain ⟨g1, K1, k1, a1, a2, a3, a4⟩ := c_scan_L hA hF F 0 0 K0 (seti σ 9 4 (0 : Int32)) (Int.le_refl _) (by omega) hC1 t0 ⟨by rw [seti1, if_pos ⟨rfl, rfl⟩]; rfl, fun j a b => by omega⟩
  have kk := a4.1
  have kn := a4.2.1
  obtain ⟨g2, b1, b2, b3⟩ := c_addToken (T := 1) (S := n) (E := n) (W := 0) a3 kk (by omega)
  have e6 : g1.1 9 6 = I n := by rw [a2.2.1 6 (by omega)]; exact e1
  have hk3 : TkC (addK K1 k1 1 n 0 n) (k1 + 1) (seti g2 9 5 (-1 : Int32)) := ⟨by rw [seti1, if_neg (by omega)]; exact b3.1, fun j a b => by rw [seti_r (by omega), seti_r (by omega), seti2]; exact b3.2 j a b⟩
  obtain ⟨g3, d1, d2, d3⟩ := c_adv (k := -1) ⟨hk3, by rw [seti_r (by omega), b2.1 1 (by omega) (by omega) (by omega), a2.1 1 (by omega) (by omega) (by omega), seti_r (by omega)]; exact h17⟩ (by omega) (by omega) (by omega) (by omega) (by rw [seti1, if_pos ⟨rfl, rfl⟩]; rfl)
  have hnx : nx (k1 + 1) (-1) = 0 := by unfold nx; rw [if_pos (by omega)]; omega
  rw [hnx] at d3
  refine ⟨g3, addK K1 k1 1 n 0 n, k1 + 1, ?_, ⟨fun c a b d => ?_, fun j a b c d => ?_, fun c a b => ?_, fun j a => ?_⟩, ?_, d3⟩
  · unfold f_X9_scan
    rw [Option.bind_some, show (0 : Int32) = I 0 from rfl] 
    have a1' : f_X9_scan_L7 F F (I 0) (seti σ 9 4 (I 0)) = some g1 := a1
    have b1' : f_X9_addToken (1 : Int32) (I n) 0 g1 = some g2 := b1
    rw [a1', Option.bind_some, e6, b1', Option.bind_some, Option.bind_some, d1]
    rfl
  · rw [d2.1 c a, seti_r a, b2.1 c a b d, a2.1 c a b d, seti_r a]
  · rw [d2.2.1 j b c d, seti1, if_neg (by omega), b2.2.1 j a, a2.2.1 j a, seti1, if_neg (by omega)]
  · rw [d2.2.2.1 c b, seti2, b2.2.2 c a, a2.2.2 c a]; rfl
  · rw [d2.2.2.2 j a, seti2, b2.2.2 9 (by omega), a2.2.2 9 (by omega)]; rfl
  · obtain ⟨_, _, _, c4, c5, c6, c7⟩ := a4
    have eT : ∀ j, kT (addK K1 k1 1 n 0 n) j = if j = k1 then 1 else kT K1 j := fun _ => rfl
    have eS : ∀ j, kS (addK K1 k1 1 n 0 n) j = if j = k1 then n else kS K1 j := fun _ => rfl
    have eW : ∀ j, kW (addK K1 k1 1 n 0 n) j = if j = k1 then 0 else kW K1 j := fun _ => rfl
    have eE : ∀ j, kE (addK K1 k1 1 n 0 n) j = if j = k1 then n else kE K1 j := fun _ => rfl
    refine ⟨by omega, by omega, fun j a b => ?_, ?_, ?_, fun j a b => ?_⟩
    · rw [eT, eS, eW, eE, if_neg (by omega), if_neg (by omega), if_neg (by omega), if_neg (by omega)]
      exact c4 j a (by omega)
    · rw [eT, eS, eE, show k1 + 1 - 1 = k1 by omega, if_pos rfl, if_pos rfl, if_pos rfl]
      exact ⟨rfl, rfl, rfl⟩
    · rw [eS]
      by_cases h : k1 = 0
      · rw [if_pos h.symm]
        rw [if_pos h] at c7
        exact c7
      · rw [if_neg (fun q => h q.symm)]
        exact c5 (by omega)
    · rw [eS, eE, if_neg (by omega)]
      by_cases h : j + 1 = k1
      · rw [if_pos h]
        rw [if_neg (by omega), show k1 - 1 = j by omega] at c7
        exact c7
      · rw [if_neg h]
        exact c6 j a (by omega)
end ATV
