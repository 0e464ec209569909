/-! new agents in both -/
def FrP (σ g : St) : Prop := g.2 = σ.2 ∧ (∀ c, c ≠ 77 → c ≠ 78 → c ≠ 35 → g.1 c = σ.1 c) ∧ ∀ j, j ≠ 3 → j ≠ 6 → g.1 77 j = σ.1 77 j
def FrQ (τ g : St) : Prop := g.2 = τ.2 ∧ ∀ c, c ≠ 12 → c ≠ 42 → g.1 c = τ.1 c
/-- after i of the rule's agents -/
def PutI (B : BkT) (r : Int) (K0 : Int → Int) (z : Int) (σ0 τ0 : St) (i : Int) (K na : Int → Int) (σ τ : St) : Prop :=
  (FrP σ0 σ ∧ FrQ τ0 τ) ∧ AgC K (z + i) σ ∧ (∀ n, 0 ≤ n → n < 400 → τ.1 12 n.toNat = I (K n)) ∧ (∀ j, 0 ≤ j → j < i → σ.1 35 j.toNat = I (na j) ∧ τ.1 42 j.toNat = I (na j)) ∧
  (∀ j, 0 ≤ j → j < i → 0 ≤ na j ∧ na j < 400 ∧ K0 (na j) = -1 ∧ K (na j) = Brk B (12 * r + j)) ∧ (∀ j l, 0 ≤ j → j < l → l < i → na j ≠ na l) ∧ (∀ n, 0 ≤ n → n < 400 → (∀ j, 0 ≤ j → j < i → n ≠ na j) → K n = K0 n) ∧ cnt (fun x => decide (0 ≤ K x)) 400 = z + i ∧ ∀ n, 0 ≤ n → n < 400 → -1 ≤ K n ∧ K n < 16
section PUT
variable {B : BkT} {r : Int} {K0 : Int → Int} {z : Int} {σ0 τ0 : St} {F : Nat}
theorem s_put_L (hK : KdV B) (hRu : RuV B) (hr0 : 0 ≤ r) (hr1 : r < Brn B) (hF : 10000 ≤ F) (hBC : BkC B σ0 64) (hBM : BkM B τ0) (hz : z + Bra B r ≤ 400) (c8 c9 : Int32) (hAI : ∀ g : St, BkC B g 64 → f_X8_agentsIn (I r) g = some (I (Bra B r))) (hAK : ∀ (g : St) (i : Int), BkC B g 64 → 0 ≤ i → i < Bra B r → f_X8_agentKind (I r) (I i) g = some (I (Brk B (12 * r + i)))) : ∀ (n : Nat) (i fr : Int) (K na : Int → Int) (σ τ : St), 0 ≤ i → i ≤ Bra B r → Bra B r - i < n → 0 ≤ fr → (∀ m, 0 ≤ m → m < fr → m < 400 → 0 ≤ K m) → PutI B r K0 z σ0 τ0 i K na σ τ → ∃ K' na' σ' τ', f_X7_putAgents_L5 F (I r) n (I fr) (I i) σ = some σ' ∧ f_X12_doStep_L184 F (I r) c8 c9 n (I i) τ = some τ' ∧ PutI B r K0 z σ0 τ0 (Bra B r) K' na' σ' τ' := by
  have hrn := hRu.2.1
  have hra := hRu.2.2.2.1 r hr0 hr1
  have h16 := hK.2.1
  intro n
  induction n with
  | zero => intro i fr K na σ τ a b c; omega
  | succ n ih =>
    intro i fr K na σ τ i0 i1 i2 f0 hfr hI
    obtain ⟨⟨hP, hQ⟩, hA, hM, hNum, hNa, hInj, hOth, hCnt, hb⟩ := id hI
    have hB1 : BkC B σ 64 := bkc_fr hBC (fun c _ _ => hP.2.1 c (by omega) (by omega) (by omega)) (by rw [hP.1])
    have hB2 : BkM B τ := bkm_fr hBM (fun c _ _ => hQ.2 c (by omega) (by omega)) (fun j _ => by rw [hQ.2 0 (by omega) (by omega)]) (by rw [hQ.1])
    have e8 := (hB2.2.2.2.1 r hr0 hr1).2.2.1
    have c1 : inb (I r) 60 = true := (I_inb (by omega) (by omega)).mpr ⟨by omega, by omega⟩
    have hixr : ix (I r) = r.toNat := I_ix (by omega) (by omega)
    rw [f_X7_putAgents_L5, hAI σ hB1, Option.bind_some, f_X12_doStep_L184, if_pos c1, hixr, e8]
    by_cases hi : i = Bra B r
    · rw [if_neg (fun q => by rw [hi] at q; exact Int32.lt_irrefl q.1), if_neg (by rw [hi]; exact Int32.lt_irrefl)]
      rw [hi] at hI
      exact ⟨K, na, σ, τ, rfl, rfl, hI⟩
    · have hrk := hRu.2.2.2.2.1 r i hr0 hr1 i0 (by omega)
      obtain ⟨m, hm⟩ := lf_ex (K := K) (fun n a b => (hb n a b).1) (by rw [hCnt]; omega)
      have hfm : fr ≤ m := by
        by_cases q : fr ≤ m
        · exact q
        · have := hfr m hm.1 (by omega) hm.2.1
          have := hm.2.2.1
          omega
      obtain ⟨σ1, a1, a2, a3⟩ := c_add (F := F) (g := σ) (v := Brk B (12 * r + i)) hb hF hA hm f0 hfm hrk.1 (by omega)
      have hle := m_least (F := F) (τ := τ) hb hM hm (I r) c8 c9 (I i) F 0 (by omega) hm.1 (by have := hm.2.1; omega)
      have hm0 := hm.1
      have hm1 := hm.2.1
      have hm2 := hm.2.2.1
      have hlt : I i < I (Bra B r) := (I_lt (by omega) (by omega) (by omega) (by omega)).mpr (by omega)
      have hlt12 : I i < (12 : Int32) := (I_lt (b := 12) (by omega) (by omega) (by omega) (by omega)).mpr (by omega)
      have hin12 : inb (I i) 12 = true := (I_inb (by omega) (by omega)).mpr ⟨by omega, by omega⟩
      have hixi : ix (I i) = i.toNat := I_ix (by omega) (by omega)
      have e12 : (12 : Int32) * I r + I i = I (12 * r + i) := by rw [show (12 : Int32) = I 12 from rfl, I_mul, I_add]
      have hin720 : inb (I (12 * r + i)) 720 = true := (I_inb (by omega) (by omega)).mpr ⟨by omega, by omega⟩
      have hix12 : ix (I (12 * r + i)) = (12 * r + i).toNat := I_ix (by omega) (by omega)
      have hinm : inb (I m) 400 = true := (I_inb (by omega) (by omega)).mpr ⟨by omega, by omega⟩
      have hixm : ix (I m) = m.toNat := I_ix (by omega) (by omega)
      have e35 : (seti σ1 35 i.toNat (I m)).1 35 i.toNat = I m := by rw [seti1, if_pos ⟨rfl, rfl⟩]
      have e9 : (seti τ 42 i.toNat (I m)).1 9 (12 * r + i).toNat = I (Brk B (12 * r + i)) := by rw [seti_r (by omega)]; exact hB2.2.2.2.2.1 r i hr0 hr1 i0 (by omega)
      rw [if_pos ⟨hlt, hlt12⟩, hAK σ i hB1 i0 (by omega), Option.bind_some, a1, Option.bind_some, if_pos hin12, Option.bind_some, hixi, if_pos hin12, e35, Option.bind_some, if_pos hlt, show (0 : Int32) = I 0 from rfl, hle, Option.bind_some, if_pos hin12, Option.bind_some, e12, if_pos hin720, if_pos hinm, hix12, e9, hixm, Option.bind_some, show (1 : Int32) = I 1 from rfl, I_add, I_add]
      have hKm : ∀ x, upd1 K m (Brk B (12 * r + i)) x = if x = m then Brk B (12 * r + i) else K x := fun x => rfl
      have mfree : ∀ j, 0 ≤ j → j < i → m ≠ na j := fun j j0 j1 e => by
        have := (hNa j j0 j1).2.2.2
        rw [← e, hm2] at this
        have := hRu.2.2.2.2.1 r j hr0 hr1 j0 (by omega)
        omega
      have hK0m : K0 m = -1 := by rw [← hOth m hm0 hm1 mfree]; exact hm2
      refine ih (i + 1) (m + 1) (upd1 K m (Brk B (12 * r + i))) (fun j => if j = i then m else na j) _ _ (by omega) (by omega) (by omega) (by omega) ?_ ⟨⟨⟨?_, ?_, ?_⟩, ?_, ?_⟩, ?_, ?_, ?_, ?_, ?_, ?_, ?_, ?_⟩
      · intro x x0 x1 x2
        rw [hKm]
        by_cases e : x = m
        · rw [if_pos e]; exact hrk.1
        · rw [if_neg e]; exact hm.2.2.2 x x0 (by omega)
      · rw [seti2, a2.1, hP.1]
      · intro c x1 x2 x3
        rw [seti_r x3, a2.2.1 c x1 x2, hP.2.1 c x1 x2 x3]
      · intro j x1 x2
        rw [seti_r (by omega), a2.2.2 j x1 x2, hP.2.2 j x1 x2]
      · exact hQ.1
      · intro c x1 x2
        rw [seti_r x1, seti_r x2, hQ.2 c x1 x2]
      · obtain ⟨b1, b2, t, b3, b4, b5, b6⟩ := a3
        refine ⟨fun x x0 x1 => by rw [seti_r (by omega)]; exact b1 x x0 x1, by rw [seti_r (by omega), b2, show z + i + 1 = z + (i + 1) by omega], t, b3, b4, by rw [seti_r (by omega)]; exact b5, b6⟩
      · intro x x0 x1
        rw [seti1, hKm]
        by_cases e : x = m
        · rw [if_pos (by rw [e]; exact ⟨rfl, rfl⟩), if_pos e]
        · rw [if_neg (by omega), if_neg e, seti_r (by omega)]; exact hM x x0 x1
      · intro j j0 j1
        show _ = I (if j = i then m else na j) ∧ _ = I (if j = i then m else na j)
        by_cases e : j = i
        · rw [if_pos e, e]
          exact ⟨e35, by rw [seti_r (by omega), seti1, if_pos ⟨rfl, rfl⟩]⟩
        · have := hNum j j0 (by omega)
          rw [if_neg e]
          refine ⟨by rw [seti1, if_neg (by omega), a2.2.1 35 (by omega) (by omega)]; exact this.1, by rw [seti_r (by omega), seti1, if_neg (by omega)]; exact this.2⟩
      · intro j j0 j1
        show 0 ≤ (if j = i then m else na j) ∧ (if j = i then m else na j) < 400 ∧ K0 (if j = i then m else na j) = -1 ∧ upd1 K m (Brk B (12 * r + i)) (if j = i then m else na j) = Brk B (12 * r + j)
        by_cases e : j = i
        · rw [if_pos e, hKm, if_pos rfl, e]
          exact ⟨hm0, hm1, hK0m, rfl⟩
        · have := hNa j j0 (by omega)
          rw [if_neg e, hKm, if_neg (fun q => mfree j j0 (by omega) q.symm)]
          exact this
      · intro j l j0 jl l1
        show (if j = i then m else na j) ≠ (if l = i then m else na l)
        rw [if_neg (by omega)]
        by_cases e : l = i
        · rw [if_pos e]
          exact fun q => mfree j j0 (by omega) q.symm
        · rw [if_neg e]; exact hInj j l j0 jl (by omega)
      · intro x x0 x1 hx
        have hxm : x ≠ m := by
          have := hx i i0 (by omega)
          simp only [if_true] at this
          exact this
        rw [hKm, if_neg hxm]
        refine hOth x x0 x1 (fun j j0 j1 => ?_)
        have := hx j j0 (by omega)
        simp only [show ¬ j = i from by omega, if_false] at this
        exact this
      · rw [cnt_up hm0 hm1 (by omega) hrk.1, hCnt]; omega
      · intro x x0 x1
        rw [hKm]
        by_cases e : x = m
        · rw [if_pos e]; omega
        · rw [if_neg e]; exact hb x x0 x1
end PUT
