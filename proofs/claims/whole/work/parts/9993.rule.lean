/-! the end of a rule's text -/
def ver (t : Int) : Int := if t < 60 then t else 1200 + (t - 60)
def addR (B : BkT) (s0 s1 : Int) (D : DrT) (far : Int → Int) (R : Int32) : BkT := (Bkn B, Bnm B, Bpt B, Bso B, Brn B + 1, fun j => if j = 16 * s0 + s1 ∨ j = 16 * s1 + s0 then Brn B else Bro B j, fun j => if j = 2 * Brn B then s0 else if j = 2 * Brn B + 1 then s1 else Brs B j, fun q => if q = Brn B then Dna D else Bra B q, fun j => if 12 * Brn B ≤ j then Dak D (j - 12 * Brn B) else Brk B j, fun q t => if q = Brn B then tol (far (ver t)) else Brt B q t, fun q => if q = Brn B then R else Brr B q)
def RuF (B : BkT) (σ τ : St) : Prop := (∀ a b, 0 ≤ a → a < 16 → 0 ≤ b → b < 16 → σ.1 20 (16 * a + b).toNat = I (Bro B (16 * a + b)) ∧ τ.1 21 (16 * a + b).toNat = I (Bro B (16 * a + b))) ∧ ∀ a b, 0 ≤ a → a < 16 → 0 ≤ b → b < 16 → (Bkn B ≤ a ∨ Bkn B ≤ b) → Bro B (16 * a + b) = -1
section ADR
variable {B : BkT} {D : DrT} {Ou : Int → Prop} {r far sk : Int → Int} {R : Int32}
theorem rl_old {q t : Int} (hq : 0 ≤ q) (hr : q < Brn B) : RLiv (addR B (sk 0) (sk 1) D far R) q t ↔ RLiv B q t := by
  have e1 : Bra (addR B (sk 0) (sk 1) D far R) q = Bra B q := if_neg (by omega)
  have e2 : ∀ j, j < 12 * Brn B → Brk (addR B (sk 0) (sk 1) D far R) j = Brk B j := fun j h => if_neg (by omega)
  have e3 : ∀ j, j < 2 * Brn B → Brs (addR B (sk 0) (sk 1) D far R) j = Brs B j := fun j h => by
    show (if j = 2 * Brn B then sk 0 else if j = 2 * Brn B + 1 then sk 1 else Brs B j) = _
    rw [if_neg (by omega), if_neg (by omega)]
  unfold RLiv
  rw [e1]
  show _ ∨ _ ↔ _
  by_cases h : 0 ≤ t ∧ t < 70
  · by_cases h6 : t < 60
    · rw [e2 (12 * q + t / 5) (by omega)]
      constructor
      · rintro (w | w)
        · exact Or.inl w
        · omega
      · rintro (w | w)
        · exact Or.inl w
        · omega
    · rw [e3 (2 * q + (t - 60) / 5) (by omega)]
      constructor
      · rintro (w | w)
        · omega
        · exact Or.inr w
      · rintro (w | w)
        · omega
        · exact Or.inr w
  · constructor
    · rintro (w | w) <;> omega
    · rintro (w | w) <;> omega
theorem rl_new (h : ShtH B D Ou r) (hO : OuRl B sk true Ou) (n12 : Dna D ≤ 12) (t : Int) : RLiv (addR B (sk 0) (sk 1) D far R) (Brn B) t ↔ (0 ≤ t ∧ t < 70 ∧ (Agv B D (ver t) ∨ Ou (ver t))) := by
  have e1 : Bra (addR B (sk 0) (sk 1) D far R) (Brn B) = Dna D := if_pos rfl
  have e2 : ∀ j, 12 * Brn B ≤ j → Brk (addR B (sk 0) (sk 1) D far R) j = Dak D (j - 12 * Brn B) := fun j h => if_pos h
  have e3 : ∀ s, 0 ≤ s → s ≤ 1 → Brs (addR B (sk 0) (sk 1) D far R) (2 * Brn B + s) = sk s := fun s a b => by
    show (if 2 * Brn B + s = 2 * Brn B then sk 0 else if 2 * Brn B + s = 2 * Brn B + 1 then sk 1 else Brs B (2 * Brn B + s)) = _
    by_cases e : s = 0
    · rw [if_pos (by omega), e]
    · rw [if_neg (by omega), if_pos (by omega), show s = 1 by omega]
  have hO' := hO rfl
  unfold RLiv ver
  rw [e1]
  by_cases hb : 0 ≤ t ∧ t < 70
  · by_cases h6 : t < 60
    · rw [e2 (12 * Brn B + t / 5) (by omega), show 12 * Brn B + t / 5 - 12 * Brn B = t / 5 by omega, if_pos h6]
      show (0 ≤ t ∧ t < 60 ∧ t / 5 < Dna D ∧ t % 5 < Bpt B (Dak D (t / 5))) ∨ _ ↔ _
      constructor
      · rintro (w | w)
        · exact ⟨hb.1, hb.2, Or.inl ⟨w.1, by omega, w.2.2⟩⟩
        · omega
      · rintro ⟨_, _, w | w⟩
        · exact Or.inl ⟨w.1, h6, w.2.2⟩
        · have := h.2.2.2.2.1 t w
          omega
    · rw [e3 ((t - 60) / 5) (by omega) (by omega), if_neg h6, hO'.2, show 1200 + (t - 60) - 1200 = t - 60 by omega]
      show _ ∨ (60 ≤ t ∧ t < 70 ∧ 1 ≤ (t - 60) % 5 ∧ (t - 60) % 5 < Bpt B (sk ((t - 60) / 5))) ↔ _
      constructor
      · rintro (w | w)
        · omega
        · exact ⟨hb.1, hb.2, Or.inr ⟨by omega, by omega, w.2.2⟩⟩
      · rintro ⟨_, _, w | w⟩
        · have := w.2.1
          omega
        · exact Or.inr ⟨by omega, hb.2, w.2.2⟩
  · constructor
    · rintro (w | w) <;> omega
    · exact fun w => absurd ⟨w.1, w.2.1⟩ hb
theorem tol_ver (h : ShtH B D Ou r) (n12 : Dna D ≤ 12) {y : Int} (hy : Dmv B D Ou y) (hn : ¬ SNv D y) : ver (tol y) = y ∧ 0 ≤ tol y ∧ tol y < 70 := by
  unfold ver tol
  rcases hy with q | q | q
  · unfold Agv at q
    rw [if_pos q.2.1, if_pos (by omega)]; omega
  · exact absurd q hn
  · have hb := h.2.2.2.2.1 y q
    rw [if_neg (show ¬ y < 1000 by omega), if_neg (by omega)]; omega
theorem ver_tol {t : Int} (t0 : 0 ≤ t) (t1 : t < 70) : tol (ver t) = t := by
  unfold ver tol
  by_cases e : t < 60
  · rw [if_pos e, if_pos (by omega)]
  · rw [if_neg e, if_neg (by omega)]; omega
theorem ver_d {t : Int} (h : ShtH B D Ou r) (ht : Agv B D (ver t) ∨ Ou (ver t)) : Dmv B D Ou (ver t) ∧ ¬ SNv D (ver t) := by
  rcases ht with q | q
  · exact ⟨Or.inl q, ag_n q⟩
  · exact ⟨Or.inr (Or.inr q), ou_n h q⟩
theorem ruv_add (h : ShtH B D Ou r) (hO : OuRl B sk true Ou) (hf : FarH B D Ou r far) (n12 : Dna D ≤ 12) (hR : RuV B) (r60 : Brn B < 60) : RuV (addR B (sk 0) (sk 1) D far R) := by
  obtain ⟨h1, h2, h3, h4, h5, h6⟩ := hR
  have b16 := h.1.2.1
  have s0 := (hO rfl).1 0 (by omega) (by omega)
  have s1 := (hO rfl).1 1 (by omega) (by omega)
  have e2 : ∀ j, 12 * Brn B ≤ j → Brk (addR B (sk 0) (sk 1) D far R) j = Dak D (j - 12 * Brn B) := fun j h => if_pos h
  have e2' : ∀ j, j < 12 * Brn B → Brk (addR B (sk 0) (sk 1) D far R) j = Brk B j := fun j h => if_neg (by omega)
  have e3 : ∀ j, j < 2 * Brn B → Brs (addR B (sk 0) (sk 1) D far R) j = Brs B j := fun j h => by
    show (if j = 2 * Brn B then sk 0 else if j = 2 * Brn B + 1 then sk 1 else Brs B j) = _
    rw [if_neg (by omega), if_neg (by omega)]
  have e30 : Brs (addR B (sk 0) (sk 1) D far R) (2 * Brn B) = sk 0 := if_pos rfl
  have e31 : Brs (addR B (sk 0) (sk 1) D far R) (2 * Brn B + 1) = sk 1 := by
    show (if 2 * Brn B + 1 = 2 * Brn B then sk 0 else if 2 * Brn B + 1 = 2 * Brn B + 1 then sk 1 else Brs B (2 * Brn B + 1)) = _
    rw [if_neg (by omega), if_pos rfl]
  have ern : Brn (addR B (sk 0) (sk 1) D far R) = Brn B + 1 := rfl
  have ero : ∀ j, Bro (addR B (sk 0) (sk 1) D far R) j = if j = 16 * sk 0 + sk 1 ∨ j = 16 * sk 1 + sk 0 then Brn B else Bro B j := fun _ => rfl
  have era : ∀ q, Bra (addR B (sk 0) (sk 1) D far R) q = if q = Brn B then Dna D else Bra B q := fun _ => rfl
  have ert : ∀ q t, Brt (addR B (sk 0) (sk 1) D far R) q t = if q = Brn B then tol (far (ver t)) else Brt B q t := fun _ _ => rfl
  refine ⟨by rw [ern]; omega, by rw [ern]; omega, fun a b a0 a1 b0 b1 => ?_, fun q q0 q1 => ?_, fun q i q0 q1 i0 i1 => ?_, fun q t q0 q1 ht => ?_⟩
  · have a1' : a < Bkn B := a1
    have b1' : b < Bkn B := b1
    rw [ero, ern]
    by_cases e : 16 * a + b = 16 * sk 0 + sk 1 ∨ 16 * a + b = 16 * sk 1 + sk 0
    · rw [if_pos e, e30, e31]
      refine ⟨by omega, by omega, fun _ => ?_⟩
      rcases e with e | e
      · exact Or.inl (by omega)
      · exact Or.inr (by omega)
    · rw [if_neg e]
      have := h3 a b a0 a1' b0 b1'
      refine ⟨this.1, by omega, fun w => ?_⟩
      rw [e3 _ (by omega), e3 _ (by omega)]
      exact this.2.2 w
  · rw [ern] at q1
    rw [era]
    by_cases e : q = Brn B
    · rw [if_pos e, e, e30, e31]
      exact ⟨h.2.1.1, n12, s0.1, s0.2, s1.1, s1.2⟩
    · rw [if_neg e, e3 _ (by omega), e3 _ (by omega)]
      exact h4 q q0 (by omega)
  · rw [ern] at q1
    rw [era] at i1
    by_cases e : q = Brn B
    · rw [if_pos e] at i1
      rw [e, e2 _ (by omega), show 12 * Brn B + i - 12 * Brn B = i by omega]
      exact h.2.2.1 i i0 i1
    · rw [if_neg e] at i1
      have := h4 q q0 (by omega)
      rw [e2' _ (by omega)]
      exact h5 q i q0 (by omega) i0 i1
  · rw [ern] at q1
    by_cases e : q = Brn B
    · rw [e] at ht ⊢
      have hl := (rl_new (far := far) (R := R) h hO n12 t).mp ht
      have vd := ver_d h hl.2.2
      have fd := hf _ vd.1 vd.2
      have tv := tol_ver h n12 fd.2.1 fd.2.2.1
      rw [ert, if_pos rfl]
      refine ⟨(rl_new h hO n12 _).mpr ⟨tv.2.1, tv.2.2, ?_⟩, ?_, fun w => ?_⟩
      · rw [tv.1]
        rcases fd.2.1 with w | w | w
        · exact Or.inl w
        · exact absurd w fd.2.2.1
        · exact Or.inr w
      · rw [ert, if_pos rfl, tv.1, fd.2.2.2.2, ver_tol hl.1 hl.2.1]
      · apply fd.2.2.2.1
        have := tv.1
        rw [w] at this
        exact this.symm
    · have ht' := (rl_old (B := B) (D := D) (far := far) (sk := sk) (R := R) q0 (by omega)).mp ht
      have := h6 q t q0 (by omega) ht'
      rw [ert, if_neg e]
      refine ⟨(rl_old q0 (by omega)).mpr this.1, ?_, this.2.2⟩
      rw [ert, if_neg e]
      exact this.2.1
end ADR
def jp14 (F : Nat) : St → Option (Int32 × St) := fun t13 =>
            Option.bind (some (f_X12_isSign (59 : Int32) t13)) fun x15 =>
            if x15 = 0 then (
              Option.bind (f_X12_wrong t13) fun x17 =>
              if x17.1 = 0 ∨ x17.1 = 1 then some (x17.1, x17.2) else none)
            else (
              Option.bind (f_X12_readRule_L106 F t13 F (1 : Int32) (0 : Int32)) fun t30 =>
              Option.bind (some (t13.1 (32) (ix (0 : Int32)))) fun x31 =>
              Option.bind (some (t13.1 (32) (ix (1 : Int32)))) fun x32 =>
              if inb (((16 : Int32) * x31) + x32) 256 then (
                if ((t13.1 (21) (ix (((16 : Int32) * x31) + x32))) < 0) ∧ (¬ (t30 = 0)) then (
                  Option.bind (f_X12_fitAll F t13) fun x34 =>
                  Option.bind (f_X12_fitSides F x34.2) fun x35 =>
                  if (x35.1 = 0) ∨ (x34.1 = 0) then (
                    Option.bind (f_X12_fail (7 : Int32) (x35.2.1 (0) 30) x35.2) fun x36 =>
                    if x36.1 = 0 ∨ x36.1 = 1 then some (x36.1, x36.2) else none)
                  else (
                    Option.bind (some (x35.2.1 (0) 41)) fun x38 =>
                    Option.bind (f_X12_sheetRings F x35.2) fun x39 =>
                    if inb x38 60 then (
                      Option.bind (some (seti x39.2 (26) (ix x38) x39.1)) fun s41 =>
                      if inb (((16 : Int32) * x31) + x32) 256 then (
                        Option.bind (some (seti s41 (21) (ix (((16 : Int32) * x31) + x32)) x38)) fun s43 =>
                        if inb (((16 : Int32) * x32) + x31) 256 then (
                          Option.bind (some (seti s43 (21) (ix (((16 : Int32) * x32) + x31)) x38)) fun s45 =>
                          if inb ((2 : Int32) * x38) 120 then (
                            Option.bind (some (seti s45 (22) (ix ((2 : Int32) * x38)) x31)) fun s47 =>
                            if inb (((2 : Int32) * x38) + (1 : Int32)) 120 then (
                              Option.bind (some (seti s47 (22) (ix (((2 : Int32) * x38) + (1 : Int32))) x32)) fun s49 =>
                              if inb x38 60 then (
                                Option.bind (some (seti s49 (23) (ix x38) (s49.1 (0) 49))) fun s51 =>
                                Option.bind (f_X12_readRule_L291 F x38 F (0 : Int32) s51) fun t69 =>
                                Option.bind (f_X12_readRule_L392 F x38 F (0 : Int32) t69) fun t83 =>
                                Option.bind (some (seti t83 (0) 41 ((t83.1 (0) 41) + (1 : Int32)))) fun s84 =>
                                some ((1 : Int32), s84))
                              else none)
                            else none)
                          else none)
                        else none)
                      else none)
                    else none))
                else (
                  Option.bind (f_X12_fail (6 : Int32) (t13.1 (0) 30) t13) fun x89 =>
                  if x89.1 = 0 ∨ x89.1 = 1 then some (x89.1, x89.2) else none))
              else none)
def FrUc (σ g : St) : Prop := (∀ c, c = 0 ∨ (10 ≤ c ∧ c ≤ 18) ∨ 27 ≤ c → g.1 c = σ.1 c) ∧ (∀ j, j ≠ 2 → j ≠ 4 → j ≠ 7 → g.1 1 j = σ.1 1 j) ∧ g.1 9 6 = σ.1 9 6 ∧ ∀ c, c ≠ 5 → c ≠ 9 → g.2 c = σ.2 c
def FrUm (τ g : St) : Prop := (∀ c, (1 ≤ c ∧ c ≤ 20) ∨ 37 ≤ c → g.1 c = τ.1 c) ∧ (∀ j, (j ≤ 28 ∧ j ≠ 2) ∨ (36 ≤ j ∧ j ≠ 41 ∧ j ≠ 49 ∧ j ≠ 50 ∧ j ≠ 54 ∧ j ≠ 60) → g.1 0 j = τ.1 0 j) ∧ (∀ c, c ≠ 0 → c ≠ 30 → g.2 c = τ.2 c) ∧ ∀ j, j ≠ 32 → g.2 0 j = τ.2 0 j
theorem fruc_tr {a b c : St} (h : FrUc a b) (h' : FrUc b c) : FrUc a c := ⟨fun x q => by rw [h'.1 x q, h.1 x q], fun j p q r => by rw [h'.2.1 j p q r, h.2.1 j p q r], by rw [h'.2.2.1, h.2.2.1], fun x p q => by rw [h'.2.2.2 x p q, h.2.2.2 x p q]⟩
theorem frum_tr {a b c : St} (h : FrUm a b) (h' : FrUm b c) : FrUm a c := ⟨fun x q => by rw [h'.1 x q, h.1 x q], fun j q => by rw [h'.2.1 j q, h.2.1 j q], fun x p q => by rw [h'.2.2.1 x p q, h.2.2.1 x p q], fun j q => by rw [h'.2.2.2 j q, h.2.2.2 j q]⟩
theorem fruc_d {σ g : St} (h : FrD σ g) : FrUc σ g := ⟨fun c q => h.1 c (by omega), fun j a c d => h.2.1 j a c d, h.2.2.1.1, h.2.2.2⟩
theorem frum_e {τ g : St} (h : FrE τ g) : FrUm τ g := ⟨fun c q => h.1 c (by omega), fun j q => h.2.1 j (by omega), h.2.2.1, h.2.2.2⟩
theorem fruc_i {σ : St} {c j : Nat} {v : Int32} (h : (2 ≤ c ∧ c ≤ 8) ∨ (19 ≤ c ∧ c ≤ 26) ∨ (c = 1 ∧ (j = 2 ∨ j = 4 ∨ j = 7))) : FrUc σ (seti σ c j v) := ⟨fun d a => seti_r (by omega), fun i a b d => by rw [seti1, if_neg (by omega)], by rw [seti1, if_neg (by omega)], fun _ _ _ => rfl⟩
theorem frum_i {τ : St} {c j : Nat} {v : Int32} (h : (21 ≤ c ∧ c ≤ 36) ∨ (c = 0 ∧ (j = 2 ∨ j = 35 ∨ j = 41 ∨ j = 49 ∨ j = 50 ∨ j = 54 ∨ j = 60))) : FrUm τ (seti τ c j v) := ⟨fun d a => seti_r (by omega), fun i a => by rw [seti1, if_neg (by omega)], fun _ _ _ => rfl, fun _ _ => rfl⟩
def FltU (σ τ σ' τ' : St) : Prop := FrUc σ σ' ∧ FrUm τ τ' ∧ ∃ c z : Int, 1 ≤ c ∧ c ≤ 7 ∧ σ'.1 1 4 = I c ∧ τ'.1 0 35 = I c ∧ σ'.1 1 7 = I z ∧ τ'.1 0 2 = I z
theorem fltu_go {σ τ g u : St} (h1 : FrUc σ g) (h2 : FrUm τ u) {c z : Int} (c1 : 1 ≤ c) (c7 : c ≤ 7) : FltU σ τ (seti (seti g 1 4 (I c)) 1 7 (I z)) (seti (seti u 0 35 (I c)) 0 2 (I z)) :=
  ⟨fruc_tr h1 (fruc_tr (fruc_i (by omega)) (fruc_i (by omega))), frum_tr h2 (frum_tr (frum_i (by omega)) (frum_i (by omega))), c, z, c1, c7, by rw [seti1, if_neg (by omega), seti1, if_pos ⟨rfl, rfl⟩], by rw [seti1, if_neg (by omega), seti1, if_pos ⟨rfl, rfl⟩], by rw [seti1, if_pos ⟨rfl, rfl⟩], by rw [seti1, if_pos ⟨rfl, rfl⟩]⟩
theorem m_all2 {D : DrT} {τ : St} {F : Nat} {T : Int} (hM : τ.1 0 54 = I (Dnn D)) (n0 : 0 ≤ Dnn D) (n6 : Dnn D ≤ 60) (hT : ∀ v, 0 ≤ v → v < Dnn D → τ.1 31 v.toNat = I (Dtm D v) ∧ 0 ≤ Dtm D v ∧ Dtm D v < 100000) : ∀ (m : Nat) (v acc : Int), 0 ≤ v → v ≤ Dnn D → Dnn D - v < m → (acc = 0 ∨ acc = 1) → ∃ acc', f_X12_readRule_L106 F τ m (I acc) (I v) = some (I acc') ∧ (acc' = 0 ∨ acc' = 1) ∧ (acc' = 1 ↔ (acc = 1 ∧ ∀ i, v ≤ i → i < Dnn D → Dtm D i = 2)) := by
  intro m
  induction m with
  | zero => intro v acc h0 h1 h2; omega
  | succ m ih =>
    intro v acc h0 h1 h2 ha
    rw [f_X12_readRule_L106, hM]
    by_cases hv : v = Dnn D
    · rw [if_neg (by rw [hv]; exact Int32.lt_irrefl)]
      exact ⟨acc, rfl, ha, fun q => ⟨q, fun i x y => by omega⟩, fun q => q.1⟩
    · have hin : inb (I v) 60 = true := (I_inb (by omega) (by omega)).mpr ⟨by omega, by omega⟩
      have hix : ix (I v) = v.toNat := I_ix (by omega) (by omega)
      have tv := hT v h0 (by omega)
      have acs : (Option.bind (some (fun (_ : Unit) => some (0 : Int32))) fun jp26 => if I acc = 0 then jp26 () else (if inb (I v) 60 = true then (if τ.1 31 (ix (I v)) = (2 : Int32) then some (1 : Int32) else jp26 ()) else none)) = some (I (if acc = 1 ∧ Dtm D v = 2 then 1 else 0)) := by
        rw [Option.bind_some, if_pos hin, hix, tv.1]
        rcases ha with e | e
        · rw [e]; rfl
        · rw [e, if_neg (show ¬ (I 1 = (0 : Int32)) by decide)]
          by_cases w : Dtm D v = 2
          · rw [if_pos (by rw [w]; rfl), if_pos ⟨rfl, w⟩]; rfl
          · rw [if_neg (fun x => w ((Ieq (2) (2) (by omega) (by omega) (by omega) (by omega)).mp x)), if_neg (fun x => w x.2)]; rfl
      rw [if_pos ((I_lt (by omega) (by omega) (by omega) (by omega)).mpr (by omega))]
      show ∃ acc', (Option.bind (Option.bind (some (fun (_ : Unit) => some (0 : Int32))) fun jp26 => if I acc = 0 then jp26 () else (if inb (I v) 60 = true then (if τ.1 31 (ix (I v)) = (2 : Int32) then some (1 : Int32) else jp26 ()) else none)) _) = _ ∧ _
      rw [acs, Option.bind_some, show I v + (1 : Int32) = I (v + 1) by rw [show (1 : Int32) = I 1 from rfl, I_add]]
      obtain ⟨acc', c1, c2, c3⟩ := ih (v + 1) (if acc = 1 ∧ Dtm D v = 2 then 1 else 0) (by omega) (by omega) (by omega) (by split; exact Or.inr rfl; exact Or.inl rfl)
      refine ⟨acc', c1, c2, c3.trans ?_⟩
      constructor
      · rintro ⟨q, w⟩
        have q' : acc = 1 ∧ Dtm D v = 2 := by
          by_cases x : acc = 1 ∧ Dtm D v = 2
          · exact x
          · rw [if_neg x] at q; omega
        refine ⟨q'.1, fun i x y => ?_⟩
        by_cases e : i = v
        · rw [e]; exact q'.2
        · exact w i (by omega) y
      · rintro ⟨q, w⟩
        exact ⟨if_pos ⟨q, w v (by omega) (by omega)⟩, fun i x y => w i (by omega) y⟩
