/-! pigeons; ways along two pairings -/
theorem pig : ∀ (n : Nat) (g : Nat → Int), (∀ i, i ≤ n → 0 ≤ g i ∧ g i < n) → ∃ i j, i < j ∧ j ≤ n ∧ g i = g j
  | 0, g, h => by
    have := h 0 (Nat.le_refl _)
    omega
  | n + 1, g, h => by
    by_cases hx : ∃ i, i ≤ n ∧ g i = g (n + 1)
    · obtain ⟨i, h1, h2⟩ := hx
      exact ⟨i, n + 1, by omega, by omega, h2⟩
    · have hne : ∀ i, i ≤ n → g i ≠ g (n + 1) := fun i h1 h2 => hx ⟨i, h1, h2⟩
      have hl := h (n + 1) (Nat.le_refl _)
      obtain ⟨i, j, hij, hj, he⟩ := pig n (fun i => if g i = n then g (n + 1) else g i) (by
        intro i hi
        have h1 := h i (by omega)
        have h2 := hne i hi
        by_cases hg : g i = n
        · simp only [hg, if_true]
          omega
        · simp only [hg, if_false]
          omega)
      refine ⟨i, j, hij, by omega, ?_⟩
      have h1 := hne i (by omega)
      have h2 := hne j hj
      by_cases a : g i = n
      · by_cases b : g j = n
        · rw [a, b]
        · simp only [a, b, if_true, if_false] at he
          exact absurd he.symm h2
      · by_cases b : g j = n
        · simp only [a, b, if_true, if_false] at he
          exact absurd he h1
        · simpa only [a, b, if_false] using he
theorem pigle {s n : Nat} {g : Nat → Int} (h : ∀ i, i < s → 0 ≤ g i ∧ g i < n) (inj : ∀ i j, i < j → j < s → g i ≠ g j) : s ≤ n := by
  by_cases hc : s ≤ n
  · exact hc
  · obtain ⟨i, j, h1, h2, h3⟩ := pig n g (fun i hi => h i (by omega))
    exact absurd h3 (inj i j h1 (by omega))
theorem piglt {s n : Nat} {g : Nat → Int} {m : Int} (h : ∀ i, i < s → 0 ≤ g i ∧ g i < n ∧ g i ≠ m) (inj : ∀ i j, i < j → j < s → g i ≠ g j) (h0 : 0 ≤ m) (h1 : m < n) : s < n := by
  have := pigle (s := s + 1) (n := n) (g := fun i => if i = s then m else g i) (by
    intro i hi
    by_cases e : i = s
    · simp only [e, if_true]; exact ⟨h0, h1⟩
    · simp only [e, if_false]
      have := h i (by omega)
      exact ⟨this.1, this.2.1⟩) (by
    intro i j hij hj
    have hi : ¬ i = s := by omega
    simp only [hi, if_false]
    by_cases e : j = s
    · simp only [e, if_true]
      exact (h i (by omega)).2.2
    · simp only [e, if_false]
      exact inj i j hij (by omega))
  omega
def itr (r o : Int → Int) : Nat → Int → Int
  | 0, x => x
  | n + 1, x => o (r (itr r o n x))
def PH (r o : Int → Int) (S D : Int → Prop) : Prop := (∀ x, D x → D (r x) ∧ r (r x) = x ∧ r x ≠ x) ∧ (∀ x, S x → D x ∧ S (o x) ∧ o (o x) = x ∧ o x ≠ x)
section PATH
variable {r o : Int → Int} {S D : Int → Prop}
theorem itr_add (x : Int) (b : Nat) : ∀ a, itr r o (a + b) x = itr r o a (itr r o b x)
  | 0 => by rw [Nat.zero_add]; rfl
  | a + 1 => by
    rw [show a + 1 + b = (a + b) + 1 by omega, itr, itr, itr_add x b a]
theorem itr_S (h : PH r o S D) {x : Int} {n : Nat} (hs : S (r (itr r o n x))) : S (itr r o (n + 1) x) := (h.2 _ hs).2.1
theorem itr_D (h : PH r o S D) {x : Int} (hx : D x) : ∀ n, (∀ j, j < n → S (r (itr r o j x))) → D (itr r o n x)
  | 0, _ => hx
  | n + 1, hs => (h.2 _ (itr_S h (hs n (by omega)))).1
/-- steps can be taken back -/
theorem itr_back (h : PH r o S D) {x : Int} (hx : D x) {i j : Nat} : ∀ (a : Nat), a ≤ i → i ≤ j → (∀ l, l < j → S (r (itr r o l x))) → itr r o i x = itr r o j x → itr r o (i - a) x = itr r o (j - a) x
  | 0, _, _, _, he => he
  | a + 1, ha, hij, hs, he => by
    have h1 := itr_back h hx a (by omega) hij hs he
    obtain ⟨i', hi'⟩ : ∃ i', i - a = i' + 1 := ⟨i - a - 1, by omega⟩
    obtain ⟨j', hj'⟩ : ∃ j', j - a = j' + 1 := ⟨j - a - 1, by omega⟩
    rw [hi', hj'] at h1
    rw [show i - (a + 1) = i' by omega, show j - (a + 1) = j' by omega]
    have si := hs i' (by omega)
    have sj := hs j' (by omega)
    rw [itr, itr] at h1
    have h2 : r (itr r o i' x) = r (itr r o j' x) := by
      rw [← (h.2 _ si).2.2.1, ← (h.2 _ sj).2.2.1, h1]
    have di := itr_D h hx i' (fun l hl => hs l (by omega))
    have dj := itr_D h hx j' (fun l hl => hs l (by omega))
    rw [← (h.1 _ di).2.1, ← (h.1 _ dj).2.1, h2]
/-- no way comes to the other side of its beginning -/
theorem itr_twin (h : PH r o S D) {z : Int} (hz : D z) {n : Nat} (hs : ∀ l, l < n → S (r (itr r o l z))) (he : itr r o n z = r z) : False := by
  have key : ∀ a, a ≤ n → itr r o (n - a) z = r (itr r o a z) := by
    intro a
    induction a with
    | zero => intro _; exact he
    | succ a ih =>
      intro ha
      have h1 := ih (by omega)
      obtain ⟨n', hn'⟩ : ∃ n', n - a = n' + 1 := ⟨n - a - 1, by omega⟩
      rw [hn', itr] at h1
      rw [show n - (a + 1) = n' by omega]
      have s1 := hs n' (by omega)
      have s2 := hs a (by omega)
      have h2 : r (itr r o n' z) = itr r o (a + 1) z := by
        rw [← (h.2 _ s1).2.2.1, h1]
        rfl
      have d1 := itr_D h hz n' (fun l hl => hs l (by omega))
      rw [← (h.1 _ d1).2.1, h2]
  rcases Nat.mod_two_eq_zero_or_one n with h0 | h0
  · have := key (n / 2) (by omega)
    rw [show n - n / 2 = n / 2 by omega] at this
    have d1 := itr_D h hz (n / 2) (fun l hl => hs l (by omega))
    exact (h.1 _ d1).2.2 this.symm
  · have := key (n / 2) (by omega)
    rw [show n - n / 2 = n / 2 + 1 by omega, itr] at this
    exact (h.2 _ (hs (n / 2) (by omega))).2.2.2 this
/-- a numbering of the pairs of o -/
def Cod (o : Int → Int) (S : Int → Prop) (c : Int → Int) (M : Nat) : Prop := (∀ x, S x → 0 ≤ c x ∧ c x < M) ∧ ∀ x y, S x → S y → c x = c y → x = y ∨ x = o y
/-- two places of a way with the same number: the way closes -/
theorem itr_rep (h : PH r o S D) {c : Int → Int} {M : Nat} (hc : Cod o S c M) {x : Int} (hx : D x) (hs : ∀ l, l ≤ M → S (r (itr r o l x))) : ∃ m, 1 ≤ m ∧ m ≤ M ∧ itr r o m x = x := by
  obtain ⟨i, j, hij, hj, he⟩ := pig M (fun l => c (r (itr r o l x))) (fun l hl => hc.1 _ (hs l hl))
  rcases hc.2 _ _ (hs i (by omega)) (hs j hj) he with q | q
  · have di := itr_D h hx i (fun l hl => hs l (by omega))
    have dj := itr_D h hx j (fun l hl => hs l (by omega))
    have e1 : itr r o i x = itr r o j x := by rw [← (h.1 _ di).2.1, ← (h.1 _ dj).2.1, q]
    have := itr_back h hx i (Nat.le_refl _) (by omega) (fun l hl => hs l (by omega)) e1
    rw [Nat.sub_self] at this
    exact ⟨j - i, by omega, by omega, this.symm⟩
  · exfalso
    have di := itr_D h hx i (fun l hl => hs l (by omega))
    refine itr_twin h di (n := j + 1 - i) ?_ ?_
    · intro l hl
      rw [← itr_add]
      exact hs _ (by omega)
    · rw [← itr_add, show j + 1 - i + i = j + 1 by omega, itr, q]
/-- from a place that is no S the way comes to one that is none -/
theorem itr_term (h : PH r o S D) {c : Int → Int} {M : Nat} (hc : Cod o S c M) {x : Int} (hx : D x) (hn : ¬ S x) : ∃ k, k ≤ M ∧ (∀ j, j < k → S (r (itr r o j x))) ∧ ¬ S (r (itr r o k x)) := by
  by_cases hall : ∀ l, l ≤ M → S (r (itr r o l x))
  · exfalso
    obtain ⟨m, h1, h2, h3⟩ := itr_rep h hc hx hall
    obtain ⟨m', rfl⟩ : ∃ m', m = m' + 1 := ⟨m - 1, by omega⟩
    apply hn
    rw [← h3]
    exact itr_S h (hall m' (by omega))
  · have : ∀ n, (∀ l, l < n → S (r (itr r o l x))) ∨ ∃ k, k < n ∧ (∀ j, j < k → S (r (itr r o j x))) ∧ ¬ S (r (itr r o k x)) := by
      intro n
      induction n with
      | zero => exact Or.inl (fun l hl => by omega)
      | succ n ih =>
        rcases ih with q | ⟨k, h1, h2⟩
        · by_cases hs : S (r (itr r o n x))
          · refine Or.inl (fun l hl => ?_)
            by_cases e : l = n
            · rw [e]; exact hs
            · exact q l (by omega)
          · exact Or.inr ⟨n, by omega, q, hs⟩
        · exact Or.inr ⟨k, by omega, h2⟩
    rcases this (M + 1) with q | ⟨k, h1, h2⟩
    · exact absurd (fun l hl => q l (by omega)) hall
    · exact ⟨k, by omega, h2⟩
/-- a way with its end -/
def Way (r o : Int → Int) (S : Int → Prop) (x : Int) (k : Nat) (y : Int) : Prop := (∀ j, j < k → S (r (itr r o j x))) ∧ ¬ S y ∧ r (itr r o k x) = y
theorem way_rev_it (h : PH r o S D) {x y : Int} {k : Nat} (hx : D x) (hw : Way r o S x k y) : ∀ j, j ≤ k → itr r o j y = r (itr r o (k - j) x) := by
  intro j
  induction j with
  | zero => intro _; rw [Nat.sub_zero]; exact hw.2.2.symm
  | succ j ih =>
    intro hj
    rw [itr, ih (by omega)]
    obtain ⟨n, hn⟩ : ∃ n, k - j = n + 1 := ⟨k - j - 1, by omega⟩
    have d := itr_D h hx (k - j) (fun l hl => hw.1 l (by omega))
    rw [(h.1 _ d).2.1, hn, itr, (h.2 _ (hw.1 n (by omega))).2.2.1, show k - (j + 1) = n by omega]
theorem way_rev (h : PH r o S D) {x y : Int} {k : Nat} (hx : D x) (hn : ¬ S x) (hw : Way r o S x k y) : D y ∧ Way r o S y k x := by
  have d := itr_D h hx k hw.1
  have dy : D y := by rw [← hw.2.2]; exact (h.1 _ d).1
  refine ⟨dy, ?_, hn, ?_⟩
  · intro j hj
    rw [way_rev_it h hx hw j (by omega)]
    obtain ⟨n, hn'⟩ : ∃ n, k - j = n + 1 := ⟨k - j - 1, by omega⟩
    have d' := itr_D h hx (k - j) (fun l hl => hw.1 l (by omega))
    rw [(h.1 _ d').2.1, hn']
    exact itr_S h (hw.1 n (by omega))
  · rw [way_rev_it h hx hw k (by omega), Nat.sub_self]
    exact (h.1 _ hx).2.1
theorem way_ne (h : PH r o S D) {x : Int} {k : Nat} (hx : D x) (hw : Way r o S x k x) : False := by
  have d := itr_D h hx k hw.1
  refine itr_twin h hx hw.1 ?_
  rw [← hw.2.2, (h.1 _ d).2.1, hw.2.2]
theorem way_uniq {x y y' : Int} {k k' : Nat} (hw : Way r o S x k y) (hw' : Way r o S x k' y') : k = k' ∧ y = y' := by
  have : k = k' := by
    rcases Nat.lt_trichotomy k k' with q | q | q
    · exact absurd (hw'.1 k q) (by rw [hw.2.2]; exact hw.2.1)
    · exact q
    · exact absurd (hw.1 k' q) (by rw [hw'.2.2]; exact hw'.2.1)
  subst this
  exact ⟨rfl, by rw [← hw.2.2, ← hw'.2.2]⟩
end PATH
