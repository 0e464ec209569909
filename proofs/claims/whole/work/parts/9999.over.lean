/-! the reference takes a book over -/
section OVR
variable {F : Nat}
theorem cpl {L : Nat → Int32 → St → Option St} {P : St → Prop} {a b c : Nat} (hab : a ≠ b) (hP : ∀ g j v, P g → P (seti g b j v)) (hL : ∀ (n j : Nat) (g : St), j < c → P g → L (n + 1) (I j) g = L n (I ((j + 1 : Nat) : Int)) (seti g b j (g.1 a j))) (hE : ∀ n g, P g → L (n + 1) (I c) g = some g) : ∀ (n j : Nat) (g : St), P g → j ≤ c → c - j < n → ∃ g', L n (I j) g = some g' ∧ g'.2 = g.2 ∧ (∀ k, k ≠ b → g'.1 k = g.1 k) ∧ ∀ i, g'.1 b i = if j ≤ i ∧ i < c then g.1 a i else g.1 b i := by
  intro n
  induction n with
  | zero => intro j g _ h1 h2; omega
  | succ n ih =>
    intro j g hp h1 h2
    by_cases h : j = c
    · subst h
      exact ⟨g, hE n g hp, rfl, fun _ _ => rfl, fun i => by rw [if_neg (by omega)]⟩
    · rw [hL n j g (by omega) hp]
      obtain ⟨g', e1, e2, e3, e4⟩ := ih (j + 1) (seti g b j (g.1 a j)) (hP g j _ hp) (by omega) (by omega)
      refine ⟨g', e1, e2, fun k hk => by rw [e3 k hk, seti_r hk], fun i => ?_⟩
      rw [e4 i, seti_r hab, seti1]
      by_cases hi : j + 1 ≤ i ∧ i < c
      · rw [if_pos hi, if_pos (by omega)]
      · rw [if_neg hi]
        by_cases hi2 : i = j
        · rw [if_pos ⟨rfl, hi2⟩, if_pos (by omega), hi2]
        · rw [if_neg (fun q => hi2 q.2), if_neg (by omega)]
theorem ijs (j : Nat) : I (j : Int) + (1 : Int32) = I ((j + 1 : Nat) : Int) := by rw [show (1 : Int32) = I 1 from rfl, I_add]; rfl
theorem ijx {j : Nat} (h : j < 100000) : ix (I (j : Int)) = j := by
  rw [show ix (I (j : Int)) = (j : Int).toNat from I_ix (by omega) (by omega)]
  omega
theorem ijb {j c : Nat} (h : j < c) (hc : c ≤ 100000) : inb (I (j : Int)) c = true := (I_inb (by omega) (by omega)).mpr ⟨by omega, by omega⟩
theorem ijl {j c : Nat} (h : j < c) (hc : c ≤ 100000) : I (j : Int) < I (c : Int) := (I_lt (by omega) (by omega) (by omega) (by omega)).mpr (by omega)
theorem o18 : ∀ (n j : Nat) (g : St), j ≤ 16 → 16 - j < n → ∃ g', f_X12_takeOver_L18 F n (I j) g = some g' ∧ (∀ c, c ≠ 3 → g'.1 c = g.1 c) ∧ (∀ c, c ≠ 2 → g'.2 c = g.2 c) ∧ (∀ i, j ≤ i → i < 16 → g'.2 2 i = g.2 17 i ∧ g'.1 3 i = g.1 18 i) ∧ ∀ i, i < j → g'.2 2 i = g.2 2 i ∧ g'.1 3 i = g.1 3 i := by
  intro n
  induction n with
  | zero => intro j g h1 h2; omega
  | succ n ih =>
    intro j g h1 h2
    rw [f_X12_takeOver_L18]
    by_cases h : j = 16
    · rw [if_neg (by rw [h]; exact Int32.lt_irrefl)]
      exact ⟨g, rfl, fun _ _ => rfl, fun _ _ => rfl, fun i a b => by omega, fun _ _ => ⟨rfl, rfl⟩⟩
    · have hb := ijb (j := j) (c := 16) (by omega) (by omega)
      rw [if_pos (show I (j : Int) < (16 : Int32) from ijl (j := j) (c := 16) (by omega) (by omega)), if_pos hb, if_pos hb, ijx (by omega), Option.bind_some, if_pos hb, if_pos hb, Option.bind_some, ijs]
      obtain ⟨g', a1, a2, a3, a4, a5⟩ := ih (j + 1) (seti (setl g 2 j (g.2 17 j)) 3 j ((setl g 2 j (g.2 17 j)).1 18 j)) (by omega) (by omega)
      refine ⟨g', a1, fun c x => by rw [a2 c x, seti_r x]; rfl, fun c x => by rw [a3 c x, seti2, setl_r x], fun i x y => ?_, fun i x => ?_⟩
      · by_cases e : i = j
        · have := a5 i (by omega)
          rw [this.1, this.2, seti1, if_pos ⟨rfl, e⟩, seti2, setl2, if_pos ⟨rfl, e⟩, e]
          exact ⟨rfl, rfl⟩
        · have := a4 i (by omega) y
          rw [this.1, this.2, seti_r (by omega), seti2, setl_r (by omega)]
          exact ⟨rfl, rfl⟩
      · have := a5 i (by omega)
        rw [this.1, this.2, seti1, if_neg (by omega), seti2, setl2, if_neg (by omega)]
        exact ⟨rfl, rfl⟩
theorem o56 : ∀ (n j : Nat) (g : St), B20 g → j ≤ 80 → 80 - j < n → ∃ g', f_X12_takeOver_L56 F n (I j) g = some g' ∧ g'.2 = g.2 ∧ (∀ c, c ≠ 4 → c ≠ 5 → g'.1 c = g.1 c) ∧ (∀ i, j ≤ i → i < 80 → g'.1 4 i = g.1 19 i ∧ g'.1 5 i = g.1 20 i) ∧ ∀ i, i < j → g'.1 4 i = g.1 4 i ∧ g'.1 5 i = g.1 5 i := by
  intro n
  induction n with
  | zero => intro j g _ h1 h2; omega
  | succ n ih =>
    intro j g hB h1 h2
    rw [f_X12_takeOver_L56]
    by_cases h : j = 80
    · rw [if_neg (by rw [h]; exact Int32.lt_irrefl)]
      exact ⟨g, rfl, rfl, fun _ _ _ => rfl, fun i a b => by omega, fun _ _ => ⟨rfl, rfl⟩⟩
    · have hb := ijb (j := j) (c := 80) (by omega) (by omega)
      have e20 : (seti g 4 j (g.1 19 j)).1 20 j = g.1 20 j := by rw [seti_r (by omega)]
      rw [if_pos (show I (j : Int) < (80 : Int32) from ijl (j := j) (c := 80) (by omega) (by omega)), if_pos hb, if_pos hb, ijx (by omega), Option.bind_some, if_pos hb, if_pos hb, e20, if_pos (hB j (by omega)), Option.bind_some, ijs]
      obtain ⟨g', a1, a2, a3, a4, a5⟩ := ih (j + 1) (seti (seti g 4 j (g.1 19 j)) 5 j (g.1 20 j)) (fun i x => by rw [seti_r (by omega), seti_r (by omega)]; exact hB i x) (by omega) (by omega)
      refine ⟨g', a1, a2, fun c x y => by rw [a3 c x y, seti_r y, seti_r x], fun i x y => ?_, fun i x => ?_⟩
      · by_cases e : i = j
        · have := a5 i (by omega)
          rw [this.1, this.2, seti_r (by omega), seti1, if_pos ⟨rfl, e⟩, seti1, if_pos ⟨rfl, e⟩, e]
          exact ⟨rfl, rfl⟩
        · have := a4 i (by omega) y
          rw [this.1, this.2, seti_r (by omega), seti_r (by omega), seti_r (by omega), seti_r (by omega)]
          exact ⟨rfl, rfl⟩
      · have := a5 i (by omega)
        rw [this.1, this.2, seti_r (by omega), seti1, if_neg (by omega), seti1, if_neg (by omega), seti_r (by omega)]
        exact ⟨rfl, rfl⟩
theorem o121 : ∀ (n j : Nat) (g : St), j ≤ 60 → 60 - j < n → ∃ g', f_X12_takeOver_L121 F n (I j) g = some g' ∧ g'.2 = g.2 ∧ (∀ c, c ≠ 7 → c ≠ 8 → c ≠ 11 → g'.1 c = g.1 c) ∧ (∀ i, j ≤ i → i < 60 → g'.1 8 i = g.1 23 i ∧ g'.1 11 i = g.1 26 i) ∧ (∀ i, 2 * j ≤ i → i < 120 → g'.1 7 i = g.1 22 i) ∧ (∀ i, i < j → g'.1 8 i = g.1 8 i ∧ g'.1 11 i = g.1 11 i) ∧ ∀ i, i < 2 * j → g'.1 7 i = g.1 7 i := by
  intro n
  induction n with
  | zero => intro j g h1 h2; omega
  | succ n ih =>
    intro j g h1 h2
    rw [f_X12_takeOver_L121]
    by_cases h : j = 60
    · rw [if_neg (by rw [h]; exact Int32.lt_irrefl)]
      exact ⟨g, rfl, rfl, fun _ _ _ _ => rfl, fun i a b => by omega, fun i a b => by omega, fun _ _ => ⟨rfl, rfl⟩, fun _ _ => rfl⟩
    · have hb := ijb (j := j) (c := 60) (by omega) (by omega)
      have e2 : (2 : Int32) * I (j : Int) = I ((2 * j : Nat) : Int) := by rw [show (2 : Int32) = I 2 from rfl, I_mul]; rfl
      have hb2 := ijb (j := 2 * j) (c := 120) (by omega) (by omega)
      have hb3 := ijb (j := 2 * j + 1) (c := 120) (by omega) (by omega)
      obtain ⟨g1, e1⟩ : ∃ g1, g1 = seti g 8 j (g.1 23 j) := ⟨_, rfl⟩
      obtain ⟨g2, e2'⟩ : ∃ g2, g2 = seti g1 11 j (g1.1 26 j) := ⟨_, rfl⟩
      obtain ⟨g3, e3⟩ : ∃ g3, g3 = seti g2 7 (2 * j) (g2.1 22 (2 * j)) := ⟨_, rfl⟩
      obtain ⟨g4, e4⟩ : ∃ g4, g4 = seti g3 7 (2 * j + 1) (g3.1 22 (2 * j + 1)) := ⟨_, rfl⟩
      rw [if_pos (show I (j : Int) < (60 : Int32) from ijl (j := j) (c := 60) (by omega) (by omega)), if_pos hb, if_pos hb, ijx (by omega), Option.bind_some, ← e1, if_pos hb, if_pos hb, Option.bind_some, ← e2', e2, if_pos hb2, if_pos hb2, ijx (by omega), Option.bind_some, ← e3, ijs, if_pos hb3, if_pos hb3, ijx (by omega), Option.bind_some, ← e4, ijs]
      obtain ⟨g', a1, a2, a3, a4, a5, a6, a7⟩ := ih (j + 1) g4 (by omega) (by omega)
      have c22 : ∀ c, c ≠ 7 → c ≠ 8 → c ≠ 11 → g4.1 c = g.1 c := fun c x y z => by rw [e4, seti_r x, e3, seti_r x, e2', seti_r z, e1, seti_r y]
      refine ⟨g', a1, by rw [a2, e4, seti2, e3, seti2, e2', seti2, e1, seti2], fun c x y z => by rw [a3 c x y z, c22 c x y z], fun i x y => ?_, fun i x y => ?_, fun i x => ?_, fun i x => ?_⟩
      · by_cases e : i = j
        · have := a6 i (by omega)
          rw [this.1, this.2, e4, seti_r (by omega), seti_r (by omega), e3, seti_r (by omega), seti_r (by omega), e2', seti_r (by omega), seti1, if_pos ⟨rfl, e⟩, e1, seti1, if_pos ⟨rfl, e⟩, seti_r (by omega), e]
          exact ⟨rfl, rfl⟩
        · have := a4 i (by omega) y
          rw [this.1, this.2, c22 23 (by omega) (by omega) (by omega), c22 26 (by omega) (by omega) (by omega)]
          exact ⟨rfl, rfl⟩
      · by_cases e : 2 * (j + 1) ≤ i
        · rw [a5 i e y, c22 22 (by omega) (by omega) (by omega)]
        · rw [a7 i (by omega), e4, seti1]
          by_cases w : i = 2 * j + 1
          · rw [if_pos ⟨rfl, w⟩, w, e3, seti_r (by omega), e2', seti_r (by omega), e1, seti_r (by omega)]
          · rw [if_neg (by omega), e3, seti1, if_pos ⟨rfl, by omega⟩, e2', seti_r (by omega), e1, seti_r (by omega), show i = 2 * j by omega]
      · have := a6 i (by omega)
        rw [this.1, this.2, e4, seti_r (by omega), seti_r (by omega), e3, seti_r (by omega), seti_r (by omega), e2', seti_r (by omega), seti1, if_neg (by omega), e1, seti1, if_neg (by omega), seti_r (by omega)]
        exact ⟨rfl, rfl⟩
      · rw [a7 i (by omega), e4, seti1, if_neg (by omega), e3, seti1, if_neg (by omega), e2', seti_r (by omega), e1, seti_r (by omega)]
theorem oset {L : Nat → Int32 → St → Option St} {b c : Nat} {v : Int32} (hL : ∀ (n j : Nat) (g : St), j < c → L (n + 1) (I j) g = L n (I ((j + 1 : Nat) : Int)) (seti g b j v)) (hE : ∀ n g, L (n + 1) (I c) g = some g) : ∀ (n j : Nat) (g : St), j ≤ c → c - j < n → ∃ g', L n (I j) g = some g' ∧ g'.2 = g.2 ∧ (∀ k, k ≠ b → g'.1 k = g.1 k) ∧ (∀ i, j ≤ i → i < c → g'.1 b i = v) ∧ ∀ i, i < j → g'.1 b i = g.1 b i := by
  intro n
  induction n with
  | zero => intro j g h1 h2; omega
  | succ n ih =>
    intro j g h1 h2
    by_cases h : j = c
    · subst h
      exact ⟨g, hE n g, rfl, fun _ _ => rfl, fun i a b => by omega, fun _ _ => rfl⟩
    · rw [hL n j g (by omega)]
      obtain ⟨g', e1, e2, e3, e4, e5⟩ := ih (j + 1) (seti g b j v) (by omega) (by omega)
      refine ⟨g', e1, e2, fun k hk => by rw [e3 k hk, seti_r hk], fun i x y => ?_, fun i x => ?_⟩
      · by_cases e : i = j
        · rw [e5 i (by omega), seti1, if_pos ⟨rfl, e⟩]
        · exact e4 i (by omega) y
      · rw [e5 i (by omega), seti1, if_neg (by omega)]
theorem m_over (hF : 10000 ≤ F) {τ : St} (hB : B20 τ) {c E : Nat} (c2 : c ≤ 200) (E8 : E ≤ 8) (h63 : τ.1 0 63 = I (c : Int)) (h66 : τ.1 0 66 = I (E : Int)) : ∃ g, f_X12_takeOver F τ = some g ∧ (∀ k, k = 1 ∨ (15 ≤ k ∧ k ≠ 47) → g.1 k = τ.1 k) ∧ (∀ j, j ≠ 3 → j ≠ 8 → j ≠ 18 → j ≠ 19 → j ≠ 20 → j ≠ 21 → j ≠ 22 → j ≠ 26 → g.1 0 j = τ.1 0 j) ∧ (g.1 0 3 = τ.1 0 36 ∧ g.1 0 8 = τ.1 0 41 ∧ g.1 0 18 = τ.1 0 66 ∧ g.1 0 19 = τ.1 0 68 ∧ g.1 0 20 = I 0 ∧ g.1 0 21 = τ.1 0 63 ∧ g.1 0 22 = I 0 ∧ g.1 0 26 = I 0) ∧ (∀ k, k ≠ 2 → g.2 k = τ.2 k) ∧ (∀ i, i < 16 → g.2 2 i = τ.2 17 i ∧ g.1 3 i = τ.1 18 i) ∧ (∀ i, i < 80 → g.1 4 i = τ.1 19 i ∧ g.1 5 i = τ.1 20 i) ∧ (∀ i, i < 256 → g.1 6 i = τ.1 21 i) ∧ (∀ i, i < 60 → g.1 8 i = τ.1 23 i ∧ g.1 11 i = τ.1 26 i) ∧ (∀ i, i < 120 → g.1 7 i = τ.1 22 i) ∧ (∀ i, i < 720 → g.1 9 i = τ.1 24 i) ∧ (∀ i, i < 4200 → g.1 10 i = τ.1 25 i) ∧ (∀ i, i < 400 → g.1 12 i = if i < c then τ.1 37 i else I (-1)) ∧ (∀ i, i < 5 * c → g.1 13 i = τ.1 38 i) ∧ (∀ i, i < E → g.1 14 i = τ.1 39 i) ∧ ∀ i, i < 4 → g.1 47 i = I (-1) := by
  obtain ⟨s2, es2⟩ : ∃ s2, s2 = seti (seti τ 0 3 (τ.1 0 36)) 0 8 (τ.1 0 41) := ⟨_, rfl⟩
  have f2 : ∀ k, k ≠ 0 → s2.1 k = τ.1 k := fun k x => by rw [es2, seti_r x, seti_r x]
  have f20 : ∀ j, j ≠ 3 → j ≠ 8 → s2.1 0 j = τ.1 0 j := fun j x y => by rw [es2, seti1, if_neg (by omega), seti1, if_neg (by omega)]
  obtain ⟨t12, a1, a2, a3, a4, _⟩ := o18 (F := F) F 0 s2 (by omega) (by omega)
  obtain ⟨t23, b1, b2, b3, b4, _⟩ := o56 (F := F) F 0 t12 (fun j x => by rw [a2 20 (by omega), f2 20 (by omega)]; exact hB j x) (by omega) (by omega)
  obtain ⟨t30, c1, cc2, c3, c4⟩ := cpl (L := f_X12_takeOver_L94 F) (P := fun _ => True) (a := 21) (b := 6) (c := 256) (by omega) (fun _ _ _ _ => trivial) (fun n j g h _ => by
    have hb := ijb (j := j) (c := 256) h (by omega)
    rw [f_X12_takeOver_L94, if_pos (show I (j : Int) < (256 : Int32) from ijl (j := j) (c := 256) h (by omega)), if_pos hb, if_pos hb, ijx (by omega), Option.bind_some, ijs]) (fun n g _ => by rw [f_X12_takeOver_L94, if_neg (show ¬ (I ((256 : Nat) : Int) < (256 : Int32)) by decide)]) F 0 t23 trivial (by omega) (by omega)
  obtain ⟨t46, d1, d2, d3, d4, d5, _, _⟩ := o121 (F := F) F 0 t30 (by omega) (by omega)
  obtain ⟨t53, e1, e2, e3, e4⟩ := cpl (L := f_X12_takeOver_L195 F) (P := fun _ => True) (a := 24) (b := 9) (c := 720) (by omega) (fun _ _ _ _ => trivial) (fun n j g h _ => by
    have hb := ijb (j := j) (c := 720) h (by omega)
    rw [f_X12_takeOver_L195, if_pos (show I (j : Int) < (720 : Int32) from ijl (j := j) (c := 720) h (by omega)), if_pos hb, if_pos hb, ijx (by omega), Option.bind_some, ijs]) (fun n g _ => by rw [f_X12_takeOver_L195, if_neg (show ¬ (I ((720 : Nat) : Int) < (720 : Int32)) by decide)]) F 0 t46 trivial (by omega) (by omega)
  obtain ⟨t60, g1, g2, g3, g4⟩ := cpl (L := f_X12_takeOver_L222 F) (P := fun _ => True) (a := 25) (b := 10) (c := 4200) (by omega) (fun _ _ _ _ => trivial) (fun n j g h _ => by
    have hb := ijb (j := j) (c := 4200) h (by omega)
    rw [f_X12_takeOver_L222, if_pos (show I (j : Int) < (4200 : Int32) from ijl (j := j) (c := 4200) h (by omega)), if_pos hb, if_pos hb, ijx (by omega), Option.bind_some, ijs]) (fun n g _ => by rw [f_X12_takeOver_L222, if_neg (show ¬ (I ((4200 : Nat) : Int) < (4200 : Int32)) by decide)]) F 0 t53 trivial (by omega) (by omega)
  obtain ⟨t61, h1, h2, h3, h4, _⟩ := oset (L := f_X12_empty_L2 F) (b := 12) (c := 400) (v := (-1 : Int32)) (fun n j g h => by
    have hb := ijb (j := j) (c := 400) h (by omega)
    rw [f_X12_empty_L2, if_pos (show I (j : Int) < (400 : Int32) from ijl (j := j) (c := 400) h (by omega)), if_pos hb, ijx (by omega), Option.bind_some, ijs]) (fun n g => by rw [f_X12_empty_L2, if_neg (show ¬ (I ((400 : Nat) : Int) < (400 : Int32)) by decide)]) F 0 t60 (by omega) (by omega)
  obtain ⟨s61, es61⟩ : ∃ s61, s61 = seti (seti t61 0 18 (0 : Int32)) 0 19 (0 : Int32) := ⟨_, rfl⟩
  have f61 : ∀ k, k ≠ 0 → s61.1 k = t61.1 k := fun k x => by rw [es61, seti_r x, seti_r x]
  have f610 : ∀ j, j ≠ 18 → j ≠ 19 → s61.1 0 j = t61.1 0 j := fun j x y => by rw [es61, seti1, if_neg (by omega), seti1, if_neg (by omega)]
  -- cell 0 up to here
  have z0 : ∀ j, j ≠ 3 → j ≠ 8 → j ≠ 18 → j ≠ 19 → s61.1 0 j = τ.1 0 j := fun j x y z w => by rw [f610 j z w, h3 0 (by omega), g3 0 (by omega), e3 0 (by omega), d3 0 (by omega) (by omega) (by omega), c3 0 (by omega), b3 0 (by omega) (by omega), a2 0 (by omega), f20 j x y]
  have z63 : s61.1 0 63 = I (c : Int) := by rw [z0 63 (by omega) (by omega) (by omega) (by omega)]; exact h63
  obtain ⟨t68, i1, i2, i3, i4⟩ := cpl (L := f_X12_takeOver_L253 F) (P := fun g => g.1 0 63 = I (c : Int)) (a := 37) (b := 12) (c := c) (by omega) (fun g j v q => by rw [seti_r (by omega)]; exact q) (fun n j g h q => by
    have hb := ijb (j := j) (c := 200) (by omega) (by omega)
    have hb' := ijb (j := j) (c := 400) (by omega) (by omega)
    rw [f_X12_takeOver_L253, q, if_pos (ijl (j := j) (c := c) h (by omega)), if_pos hb, if_pos hb', ijx (by omega), Option.bind_some, ijs]) (fun n g q => by rw [f_X12_takeOver_L253, q, if_neg (Int32.lt_irrefl)]) F 0 s61 z63 (by omega) (by omega)
  have e5c : (5 : Int32) * I (c : Int) = I ((5 * c : Nat) : Int) := by rw [show (5 : Int32) = I 5 from rfl, I_mul]; rfl
  obtain ⟨t75, j1, j2, j3, j4⟩ := cpl (L := f_X12_takeOver_L281 F) (P := fun g => g.1 0 63 = I (c : Int)) (a := 38) (b := 13) (c := 5 * c) (by omega) (fun g j v q => by rw [seti_r (by omega)]; exact q) (fun n j g h q => by
    have hb := ijb (j := j) (c := 1000) (by omega) (by omega)
    have hb' := ijb (j := j) (c := 2000) (by omega) (by omega)
    rw [f_X12_takeOver_L281, q, e5c, if_pos (ijl (j := j) (c := 5 * c) h (by omega)), if_pos hb, if_pos hb', ijx (by omega), Option.bind_some, ijs]) (fun n g q => by rw [f_X12_takeOver_L281, q, e5c, if_neg (Int32.lt_irrefl)]) F 0 t68 (by rw [i3 0 (by omega)]; exact z63) (by omega) (by omega)
  have z75 : ∀ j, j ≠ 3 → j ≠ 8 → j ≠ 18 → j ≠ 19 → t75.1 0 j = τ.1 0 j := fun j x y z w => by rw [j3 0 (by omega), i3 0 (by omega), z0 j x y z w]
  obtain ⟨s76, es76⟩ : ∃ s76, s76 = seti t75 0 18 (t75.1 0 66) := ⟨_, rfl⟩
  have f76 : ∀ k, k ≠ 0 → s76.1 k = t75.1 k := fun k x => by rw [es76, seti_r x]
  have z76 : s76.1 0 66 = I (E : Int) := by rw [es76, seti1, if_neg (by omega), z75 66 (by omega) (by omega) (by omega) (by omega)]; exact h66
  obtain ⟨t83, k1, k2, k3, k4⟩ := cpl (L := f_X12_takeOver_L319 F) (P := fun g => g.1 0 66 = I (E : Int)) (a := 39) (b := 14) (c := E) (by omega) (fun g j v q => by rw [seti_r (by omega)]; exact q) (fun n j g h q => by
    have hb := ijb (j := j) (c := 8) (by omega) (by omega)
    rw [f_X12_takeOver_L319, q, if_pos (ijl (j := j) (c := E) h (by omega)), if_pos hb, if_pos hb, ijx (by omega), Option.bind_some, ijs]) (fun n g q => by rw [f_X12_takeOver_L319, q, if_neg (Int32.lt_irrefl)]) F 0 s76 z76 (by omega) (by omega)
  obtain ⟨s88, es88⟩ : ∃ s88, s88 = seti (seti (seti (seti (seti t83 0 19 (t83.1 0 68)) 0 20 (0 : Int32)) 0 21 ((seti (seti t83 0 19 (t83.1 0 68)) 0 20 (0 : Int32)).1 0 63)) 0 22 (0 : Int32)) 0 26 (0 : Int32) := ⟨_, rfl⟩
  have f88 : ∀ k, k ≠ 0 → s88.1 k = t83.1 k := fun k x => by rw [es88, seti_r x, seti_r x, seti_r x, seti_r x, seti_r x]
  obtain ⟨g, l1, l2, l3, l4, _⟩ := oset (L := f_X12_takeOver_L378 F) (b := 47) (c := 4) (v := (-1 : Int32)) (fun n j g h => by
    have hb := ijb (j := j) (c := 4) h (by omega)
    rw [f_X12_takeOver_L378, if_pos (show I (j : Int) < (4 : Int32) from ijl (j := j) (c := 4) h (by omega)), if_pos hb, ijx (by omega), Option.bind_some, ijs]) (fun n g => by rw [f_X12_takeOver_L378, if_neg (show ¬ (I ((4 : Nat) : Int) < (4 : Int32)) by decide)]) F 0 s88 (by omega) (by omega)
  have y83 : ∀ j, j ≠ 3 → j ≠ 8 → j ≠ 18 → j ≠ 19 → t83.1 0 j = τ.1 0 j := fun j x y z w => by rw [k3 0 (by omega), es76, seti1, if_neg (by omega), z75 j x y z w]
  have w3 : ∀ j, j = 3 ∨ j = 8 → t83.1 0 j = s2.1 0 j := fun j x => by rw [k3 0 (by omega), es76, seti1, if_neg (by omega), j3 0 (by omega), i3 0 (by omega), f610 j (by omega) (by omega), h3 0 (by omega), g3 0 (by omega), e3 0 (by omega), d3 0 (by omega) (by omega) (by omega), c3 0 (by omega), b3 0 (by omega) (by omega), a2 0 (by omega)]
  have row : ∀ k, k ≠ 0 → k ≠ 12 → k ≠ 13 → k ≠ 14 → k ≠ 47 → g.1 k = t60.1 k := fun k x y z w v => by rw [l3 k v, f88 k x, k3 k w, f76 k x, j3 k z, i3 k y, f61 k x, h3 k y]
  have row2 : g.2 = t12.2 := by rw [l2, es88]; show t83.2 = _; rw [k2, es76]; show t75.2 = _; rw [j2, i2, es61]; show t61.2 = _; rw [h2, g2, e2, d2, cc2, b2]
  refine ⟨g, ?_, fun k x => ?_, fun j x1 x2 x3 x4 x5 x6 x7 x8 => ?_, ⟨?_, ?_, ?_, ?_, ?_, ?_, ?_, ?_⟩, fun k x => ?_, fun i x => ?_, fun i x => ?_, fun i x => ?_, fun i x => ?_, fun i x => ?_, fun i x => ?_, fun i x => ?_, fun i x => ?_, fun i x => ?_, fun i x => ?_, fun i x => ?_⟩
  · unfold f_X12_takeOver f_X12_empty
    have es2' : seti (seti τ 0 3 (τ.1 0 36)) 0 8 ((seti τ 0 3 (τ.1 0 36)).1 0 41) = s2 := by rw [es2, seti1 τ 0 3 (τ.1 0 36) 0 41, if_neg (by omega)]
    rw [Option.bind_some, Option.bind_some, es2', show f_X12_takeOver_L18 F F (0 : Int32) s2 = _ from a1, Option.bind_some, show f_X12_takeOver_L56 F F (0 : Int32) t12 = _ from b1, Option.bind_some, show f_X12_takeOver_L94 F F (0 : Int32) t23 = _ from c1, Option.bind_some, show f_X12_takeOver_L121 F F (0 : Int32) t30 = _ from d1, Option.bind_some, show f_X12_takeOver_L195 F F (0 : Int32) t46 = _ from e1, Option.bind_some, show f_X12_takeOver_L222 F F (0 : Int32) t53 = _ from g1, Option.bind_some, show f_X12_empty_L2 F F (0 : Int32) t60 = _ from h1, Option.bind_some, Option.bind_some, Option.bind_some, Option.bind_some, ← es61, show f_X12_takeOver_L253 F F (0 : Int32) s61 = _ from i1, Option.bind_some, show f_X12_takeOver_L281 F F (0 : Int32) t68 = _ from j1, Option.bind_some, Option.bind_some, ← es76, show f_X12_takeOver_L319 F F (0 : Int32) s76 = _ from k1, Option.bind_some, Option.bind_some, Option.bind_some, Option.bind_some, Option.bind_some, Option.bind_some, ← es88, show f_X12_takeOver_L378 F F (0 : Int32) s88 = _ from l1, Option.bind_some]
  · rw [row k (by omega) (by omega) (by omega) (by omega) (by omega), g3 k (by omega), e3 k (by omega), d3 k (by omega) (by omega) (by omega), c3 k (by omega), b3 k (by omega) (by omega), a2 k (by omega), f2 k (by omega)]
  · rw [l3 0 (by omega), es88, seti1, if_neg (by omega), seti1, if_neg (by omega), seti1, if_neg (by omega), seti1, if_neg (by omega), seti1, if_neg (by omega)]
    exact y83 j x1 x2 x3 x4
  · rw [l3 0 (by omega), es88, seti1, if_neg (by omega), seti1, if_neg (by omega), seti1, if_neg (by omega), seti1, if_neg (by omega), seti1, if_neg (by omega), w3 3 (by omega), es2, seti1, if_neg (by omega), seti1, if_pos ⟨rfl, rfl⟩]
  · rw [l3 0 (by omega), es88, seti1, if_neg (by omega), seti1, if_neg (by omega), seti1, if_neg (by omega), seti1, if_neg (by omega), seti1, if_neg (by omega), w3 8 (by omega), es2, seti1, if_pos ⟨rfl, rfl⟩]
  · rw [l3 0 (by omega), es88, seti1, if_neg (by omega), seti1, if_neg (by omega), seti1, if_neg (by omega), seti1, if_neg (by omega), seti1, if_neg (by omega), k3 0 (by omega), es76, seti1, if_pos ⟨rfl, rfl⟩, z75 66 (by omega) (by omega) (by omega) (by omega)]
  · rw [l3 0 (by omega), es88, seti1, if_neg (by omega), seti1, if_neg (by omega), seti1, if_neg (by omega), seti1, if_neg (by omega), seti1, if_pos ⟨rfl, rfl⟩, y83 68 (by omega) (by omega) (by omega) (by omega)]
  · rw [l3 0 (by omega), es88, seti1, if_neg (by omega), seti1, if_neg (by omega), seti1, if_neg (by omega), seti1, if_pos ⟨rfl, rfl⟩]; rfl
  · rw [l3 0 (by omega), es88, seti1, if_neg (by omega), seti1, if_neg (by omega), seti1, if_pos ⟨rfl, rfl⟩, seti1, if_neg (by omega), seti1, if_neg (by omega), y83 63 (by omega) (by omega) (by omega) (by omega)]
  · rw [l3 0 (by omega), es88, seti1, if_neg (by omega), seti1, if_pos ⟨rfl, rfl⟩]; rfl
  · rw [l3 0 (by omega), es88, seti1, if_pos ⟨rfl, rfl⟩]; rfl
  · rw [row2, a3 k x, es2]; rfl
  · have := a4 i (by omega) x
    rw [row2, row 3 (by omega) (by omega) (by omega) (by omega) (by omega), g3 3 (by omega), e3 3 (by omega), d3 3 (by omega) (by omega) (by omega), c3 3 (by omega), b3 3 (by omega) (by omega), this.1, this.2, f2 18 (by omega), es2]
    exact ⟨rfl, rfl⟩
  · have := b4 i (by omega) x
    rw [row 4 (by omega) (by omega) (by omega) (by omega) (by omega), row 5 (by omega) (by omega) (by omega) (by omega) (by omega), g3 4 (by omega), g3 5 (by omega), e3 4 (by omega), e3 5 (by omega), d3 4 (by omega) (by omega) (by omega), d3 5 (by omega) (by omega) (by omega), c3 4 (by omega), c3 5 (by omega), this.1, this.2, a2 19 (by omega), a2 20 (by omega), f2 19 (by omega), f2 20 (by omega)]
    exact ⟨rfl, rfl⟩
  · rw [row 6 (by omega) (by omega) (by omega) (by omega) (by omega), g3 6 (by omega), e3 6 (by omega), d3 6 (by omega) (by omega) (by omega), c4 i, if_pos (by omega), b3 21 (by omega) (by omega), a2 21 (by omega), f2 21 (by omega)]
  · have := d4 i (by omega) x
    rw [row 8 (by omega) (by omega) (by omega) (by omega) (by omega), row 11 (by omega) (by omega) (by omega) (by omega) (by omega), g3 8 (by omega), g3 11 (by omega), e3 8 (by omega), e3 11 (by omega), this.1, this.2, c3 23 (by omega), c3 26 (by omega), b3 23 (by omega) (by omega), b3 26 (by omega) (by omega), a2 23 (by omega), a2 26 (by omega), f2 23 (by omega), f2 26 (by omega)]
    exact ⟨rfl, rfl⟩
  · rw [row 7 (by omega) (by omega) (by omega) (by omega) (by omega), g3 7 (by omega), e3 7 (by omega), d5 i (by omega) x, c3 22 (by omega), b3 22 (by omega) (by omega), a2 22 (by omega), f2 22 (by omega)]
  · rw [row 9 (by omega) (by omega) (by omega) (by omega) (by omega), g3 9 (by omega), e4 i, if_pos (by omega), d3 24 (by omega) (by omega) (by omega), c3 24 (by omega), b3 24 (by omega) (by omega), a2 24 (by omega), f2 24 (by omega)]
  · rw [row 10 (by omega) (by omega) (by omega) (by omega) (by omega), g4 i, if_pos (by omega), e3 25 (by omega), d3 25 (by omega) (by omega) (by omega), c3 25 (by omega), b3 25 (by omega) (by omega), a2 25 (by omega), f2 25 (by omega)]
  · rw [l3 12 (by omega), f88 12 (by omega), k3 12 (by omega), f76 12 (by omega), j3 12 (by omega), i4 i]
    have r37 : s61.1 37 = τ.1 37 := by rw [f61 37 (by omega), h3 37 (by omega), g3 37 (by omega), e3 37 (by omega), d3 37 (by omega) (by omega) (by omega), c3 37 (by omega), b3 37 (by omega) (by omega), a2 37 (by omega), f2 37 (by omega)]
    by_cases w : i < c
    · rw [if_pos ⟨by omega, w⟩, if_pos w, r37]
    · rw [if_neg (fun q => w q.2), if_neg w, f61 12 (by omega), h4 i (by omega) x]; rfl
  · rw [l3 13 (by omega), f88 13 (by omega), k3 13 (by omega), f76 13 (by omega), j4 i, if_pos ⟨by omega, x⟩, i3 38 (by omega), f61 38 (by omega), h3 38 (by omega), g3 38 (by omega), e3 38 (by omega), d3 38 (by omega) (by omega) (by omega), c3 38 (by omega), b3 38 (by omega) (by omega), a2 38 (by omega), f2 38 (by omega)]
  · rw [l3 14 (by omega), f88 14 (by omega), k4 i, if_pos ⟨by omega, x⟩, f76 39 (by omega), j3 39 (by omega), i3 39 (by omega), f61 39 (by omega), h3 39 (by omega), g3 39 (by omega), e3 39 (by omega), d3 39 (by omega) (by omega) (by omega), c3 39 (by omega), b3 39 (by omega) (by omega), a2 39 (by omega), f2 39 (by omega)]
  · exact l4 i (by omega) x
end OVR
