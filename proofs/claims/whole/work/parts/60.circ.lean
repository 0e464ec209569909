/-! circles: two ways to count them -/
def fi (f : Int → Int) : Nat → Int → Int
  | 0, a => a
  | n + 1, a => f (fi f n a)
theorem fi_add (f : Int → Int) (a : Int) (m : Nat) : ∀ n, fi f (n + m) a = fi f n (fi f m a)
  | 0 => by rw [Nat.zero_add]; rfl
  | n + 1 => by rw [show n + 1 + m = (n + m) + 1 by omega, fi, fi, fi_add f a m n]
theorem fi_mul (f : Int → Int) {a : Int} {m : Nat} (h : fi f m a = a) : ∀ k, fi f (m * k) a = a
  | 0 => rfl
  | k + 1 => by rw [Nat.mul_succ, Nat.add_comm, fi_add, fi_mul f h k, h]
def Fn (f : Int → Int) : Prop := (∀ x, f x = -1 ∨ (0 ≤ f x ∧ f x < 400)) ∧ f (-1) = -1
def cyc (f : Int → Int) (a : Int) : Prop := 0 ≤ a ∧ ∃ m, 1 ≤ m ∧ fi f m a = a ∧ ∀ j, 1 ≤ j → j < m → a < fi f j a
section CIR
variable {f : Int → Int}
theorem fi_m1 (hf : Fn f) : ∀ n, fi f n (-1) = -1
  | 0 => rfl
  | n + 1 => by rw [fi, fi_m1 hf n, hf.2]
theorem fi_r (hf : Fn f) {a : Int} (h : a = -1 ∨ (0 ≤ a ∧ a < 400)) : ∀ n, fi f n a = -1 ∨ (0 ≤ fi f n a ∧ fi f n a < 400)
  | 0 => h
  | n + 1 => hf.1 _
/-- the reference's walk tells whether a is the least of a circle -/
theorem cyc_short (hf : Fn f) {a : Int} (h0 : 0 ≤ a) (h1 : a < 400) {m : Nat} (hm : 1 ≤ m) (he : fi f m a = a) (hl : ∀ j, 1 ≤ j → j < m → a < fi f j a) : m ≤ 400 := by
  apply pigle (g := fun i => fi f i a)
  · intro i hi
    by_cases hi0 : i = 0
    · subst hi0; exact ⟨h0, h1⟩
    · have := hl i (by omega) hi
      rcases fi_r hf (Or.inr ⟨h0, h1⟩) i with q | q
      · omega
      · exact ⟨by omega, q.2⟩
  · intro i j hij hj e
    have : fi f (m - j + i) a = a := by
      rw [fi_add, show fi f i a = fi f j a from e, ← fi_add, show m - j + j = m by omega, he]
    have := hl (m - j + i) (by omega) (by omega)
    omega
theorem min_seg (x : Nat → Int) (l : Nat) : ∀ p, ∃ j, l ≤ j ∧ j ≤ l + p ∧ ∀ i, l ≤ i → i ≤ l + p → x j ≤ x i
  | 0 => ⟨l, by omega, by omega, fun i h1 h2 => by rw [show i = l by omega]; exact Int.le_refl _⟩
  | p + 1 => by
    obtain ⟨j, h1, h2, h3⟩ := min_seg x l p
    by_cases h : x j ≤ x (l + p + 1)
    · refine ⟨j, h1, by omega, fun i a b => ?_⟩
      by_cases e : i = l + p + 1
      · rw [e]; exact h
      · exact h3 i a (by omega)
    · refine ⟨l + p + 1, by omega, by omega, fun i a b => ?_⟩
      by_cases e : i = l + p + 1
      · rw [e]; exact Int.le_refl _
      · have := h3 i a (by omega)
        omega
/-- a way that runs into what was there before has no circle -/
theorem cyc_none (hf : Fn f) {M : Int → Prop} (hM : ∀ x, M x → f x = -1 ∨ M (f x)) {s : Int} {i : Nat} (hu : ∀ l, l < i → 0 ≤ fi f l s ∧ ¬ M (fi f l s)) (he : fi f i s = -1 ∨ M (fi f i s)) : ∀ l, l < i → ¬ cyc f (fi f l s) := by
  intro l hl hc
  obtain ⟨h0, m, hm, e, _⟩ := hc
  have hst : ∀ t, fi f (t + i) s = -1 ∨ M (fi f (t + i) s) := by
    intro t
    induction t with
    | zero => rw [Nat.zero_add]; exact he
    | succ t ih =>
      rw [show t + 1 + i = (t + i) + 1 by omega, fi]
      rcases ih with q | q
      · rw [q, hf.2]; exact Or.inl rfl
      · exact hM _ q
  have h2 : fi f (m * i + l) s = fi f l s := by
    rw [fi_add, fi_mul f e]
  have hmi : i ≤ m * i := by
    have := Nat.mul_le_mul_right i hm
    omega
  have := hst (m * i + l - i)
  rw [show m * i + l - i + i = m * i + l by omega, h2] at this
  have hh := hu l hl
  rcases this with q | q
  · omega
  · exact hh.2 q
theorem cyc_one (hf : Fn f) {s : Int} {i l : Nat} (hli : l < i) (hu : ∀ j, j < i → 0 ≤ fi f j s) (hd : ∀ j k, j < k → k < i → fi f j s ≠ fi f k s) (he : fi f i s = fi f l s) : ∃ j, j < i ∧ cyc f (fi f j s) ∧ ∀ k, k < i → cyc f (fi f k s) → k = j := by
  obtain ⟨p, hp⟩ : ∃ p, i = l + p + 1 := ⟨i - l - 1, by omega⟩
  obtain ⟨j, h1, h2, h3⟩ := min_seg (fun n => fi f n s) l p
  have per : ∀ t, l ≤ t → fi f (p + 1) (fi f t s) = fi f t s := by
    intro t ht
    rw [← fi_add, show p + 1 + t = (t - l) + i by omega, fi_add, he, ← fi_add, show t - l + l = t by omega]
  -- every later place is a place of the circle
  have inc : ∀ t, l ≤ t → ∃ t', l ≤ t' ∧ t' < i ∧ fi f t s = fi f t' s := by
    intro t
    induction t with
    | zero => intro ht; exact ⟨0, ht, by omega, rfl⟩
    | succ t ih =>
      intro ht
      by_cases e : l = t + 1
      · exact ⟨t + 1, by omega, by omega, rfl⟩
      · obtain ⟨t', a, b, c⟩ := ih (by omega)
        by_cases e' : t' + 1 = i
        · refine ⟨l, by omega, hli, ?_⟩
          rw [fi, c]
          show fi f (t' + 1) s = _
          rw [e', he]
        · exact ⟨t' + 1, by omega, by omega, by rw [fi, c]; rfl⟩
  have cj : cyc f (fi f j s) := by
    refine ⟨hu j (by omega), p + 1, by omega, per j h1, fun t t1 t2 => ?_⟩
    rw [← fi_add]
    obtain ⟨t', a, b, c⟩ := inc (t + j) (by omega)
    have hle := h3 t' a (by omega)
    have hne : fi f (t + j) s ≠ fi f j s := by
      by_cases hlt : t + j < i
      · exact (hd j (t + j) (by omega) hlt).symm
      · have e1 : fi f (t + j) s = fi f (t + j - (p + 1)) s := by
          have := per (t + j - (p + 1)) (by omega)
          rw [← fi_add, show p + 1 + (t + j - (p + 1)) = t + j by omega] at this
          exact this
        rw [e1]
        exact hd (t + j - (p + 1)) j (by omega) (by omega)
    rw [c] at hne ⊢
    have hle' : fi f j s ≤ fi f t' s := hle
    omega
  refine ⟨j, by omega, cj, fun k hk hc => ?_⟩
  obtain ⟨_, m, hm, e, hlow⟩ := hc
  -- k is in the circle
  have hkl : l ≤ k := by
    by_cases q : l ≤ k
    · exact q
    · exfalso
      have h2 : fi f (m * l + k) s = fi f k s := by rw [fi_add, fi_mul f e]
      have hml : l ≤ m * l := by
        have := Nat.mul_le_mul_right l hm
        omega
      obtain ⟨t', a, b, c⟩ := inc (m * l + k) (by omega)
      rw [h2] at c
      exact hd k t' (by omega) b c
  have hmin := h3 k hkl (by omega)
  have hmin' : fi f j s ≤ fi f k s := hmin
  by_cases ejk : k = j
  · exact ejk
  · exfalso
    -- j is a later place of k
    have : ∃ t, 1 ≤ t ∧ fi f t (fi f k s) = fi f j s := by
      by_cases q : k < j
      · exact ⟨j - k, by omega, by rw [← fi_add, show j - k + k = j by omega]⟩
      · refine ⟨p + 1 - (k - j), by omega, ?_⟩
        rw [← fi_add, show p + 1 - (k - j) + k = p + 1 + j by omega, fi_add]
        exact per j h1
    obtain ⟨t, t1, t2⟩ := this
    have hr : fi f (t % m) (fi f k s) = fi f j s := by
      have := Nat.div_add_mod t m
      rw [← t2]
      conv => rhs; rw [← this, Nat.add_comm, fi_add, fi_mul f e]
    by_cases q : t % m = 0
    · rw [q] at hr
      have hr' : fi f k s = fi f j s := hr
      rcases Nat.lt_trichotomy k j with q | q | q
      · exact hd k j q (by omega) hr'
      · exact ejk q
      · exact hd j k q hk hr'.symm
    · have := hlow (t % m) (by omega) (Nat.mod_lt _ (by omega))
      rw [hr] at this
      omega
end CIR
theorem cnt_one {p q : Int → Bool} {a : Int} : ∀ n : Nat, 0 ≤ a → (∀ i : Int, 0 ≤ i → i < n → i ≠ a → q i = p i) → p a = false → q a = true → cnt q n = cnt p n + if a < n then 1 else 0
  | 0, h0, _, _, _ => by
    rw [if_neg (by omega)]; rfl
  | n + 1, h0, h, hp, hq => by
    rw [cnt, cnt, cnt_one n h0 (fun i a b c => h i a (by omega) c) hp hq]
    by_cases e : a = n
    · subst e
      rw [hp, hq, if_neg (show ¬ ((n : Int) < (n : Int)) by omega), if_pos (show (n : Int) < ((n + 1 : Nat) : Int) by omega)]
      simp
    · rw [h n (by omega) (by omega) (fun x => e x.symm)]
      by_cases l : a < n
      · rw [if_pos l, if_pos (show a < ((n + 1 : Nat) : Int) by omega)]; omega
      · rw [if_neg l, if_neg (show ¬ (a < ((n + 1 : Nat) : Int)) by omega)]; omega
noncomputable def cyB (f : Int → Int) (M : Int → Prop) (a : Int) : Bool := @decide (cyc f a ∧ M a) (Classical.propDecidable _)
theorem cyB_t {f : Int → Int} {M : Int → Prop} {a : Int} : cyB f M a = true ↔ cyc f a ∧ M a := by
  unfold cyB
  exact @decide_eq_true_iff _ (Classical.propDecidable _)
theorem cyB_f {f : Int → Int} {M : Int → Prop} {a : Int} : cyB f M a = false ↔ ¬ (cyc f a ∧ M a) := by
  unfold cyB
  exact @decide_eq_false_iff_not _ (Classical.propDecidable _)
