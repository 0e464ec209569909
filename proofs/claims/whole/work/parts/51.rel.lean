/-! what both worlds mean: a book (kinds, rules), a net -/
abbrev BkT : Type := Int × (Int → Int64) × (Int → Int) × (Int → Int) × Int × (Int → Int) × (Int → Int) × (Int → Int) × (Int → Int) × (Int → Int → Int) × (Int → Int32)
def Bkn (B : BkT) : Int := B.1
def Bnm (B : BkT) : Int → Int64 := B.2.1
def Bpt (B : BkT) : Int → Int := B.2.2.1
def Bso (B : BkT) : Int → Int := B.2.2.2.1
def Brn (B : BkT) : Int := B.2.2.2.2.1
def Bro (B : BkT) : Int → Int := B.2.2.2.2.2.1
def Brs (B : BkT) : Int → Int := B.2.2.2.2.2.2.1
def Bra (B : BkT) : Int → Int := B.2.2.2.2.2.2.2.1
def Brk (B : BkT) : Int → Int := B.2.2.2.2.2.2.2.2.1
def Brt (B : BkT) : Int → Int → Int := B.2.2.2.2.2.2.2.2.2.1
def Brr (B : BkT) : Int → Int32 := B.2.2.2.2.2.2.2.2.2.2
def KdV (B : BkT) : Prop := 0 ≤ Bkn B ∧ Bkn B ≤ 16 ∧ (∀ k, 0 ≤ k → k < Bkn B → 1 ≤ Bpt B k ∧ Bpt B k ≤ 5) ∧ ∀ k p, 0 ≤ k → k < Bkn B → 0 ≤ p → p < Bpt B k → -26 ≤ Bso B (5 * k + p) ∧ Bso B (5 * k + p) < 26
def KdC (B : BkT) (h : Nat → Int32) (nm : Nat → Int64) (pt so : Nat → Int32) : Prop := h 3 = I (Bkn B) ∧ (∀ k, 0 ≤ k → k < Bkn B → nm k.toNat = Bnm B k) ∧ (∀ k, 0 ≤ k → k < Bkn B → pt k.toNat = I (Bpt B k)) ∧ ∀ k p, 0 ≤ k → k < Bkn B → 0 ≤ p → p < Bpt B k → so (5 * k + p).toNat = I (Bso B (5 * k + p))
def KdM (B : BkT) (h : Int32) (nm : Nat → Int64) (pt so pl : Nat → Int32) : Prop := h = I (Bkn B) ∧ (∀ k, 0 ≤ k → k < Bkn B → nm k.toNat = Bnm B k) ∧ (∀ k, 0 ≤ k → k < Bkn B → pt k.toNat = I (Bpt B k)) ∧ ∀ k p, 0 ≤ k → k < Bkn B → 0 ≤ p → p < Bpt B k → so (5 * k + p).toNat = I (if 0 ≤ Bso B (5 * k + p) then Bso B (5 * k + p) else -1 - Bso B (5 * k + p)) ∧ pl (5 * k + p).toNat = I (if 0 ≤ Bso B (5 * k + p) then 1 else 0)
def RLiv (B : BkT) (r t : Int) : Prop := (0 ≤ t ∧ t < 60 ∧ t / 5 < Bra B r ∧ t % 5 < Bpt B (Brk B (12 * r + t / 5))) ∨ (60 ≤ t ∧ t < 70 ∧ 1 ≤ (t - 60) % 5 ∧ (t - 60) % 5 < Bpt B (Brs B (2 * r + (t - 60) / 5)))
def encR (t : Int) : Int := if t < 60 then 8 * (t / 5) + t % 5 else -2 - (4 * ((t - 60) / 5) + (t - 60) % 5 - 1)
def RuV (B : BkT) : Prop := 0 ≤ Brn B ∧ Brn B ≤ 60 ∧
  (∀ a b, 0 ≤ a → a < Bkn B → 0 ≤ b → b < Bkn B → -1 ≤ Bro B (16 * a + b) ∧ Bro B (16 * a + b) < Brn B ∧ (0 ≤ Bro B (16 * a + b) → (Brs B (2 * Bro B (16 * a + b)) = a ∧ Brs B (2 * Bro B (16 * a + b) + 1) = b) ∨ (Brs B (2 * Bro B (16 * a + b)) = b ∧ Brs B (2 * Bro B (16 * a + b) + 1) = a))) ∧
  (∀ r, 0 ≤ r → r < Brn B → 0 ≤ Bra B r ∧ Bra B r ≤ 12 ∧ 0 ≤ Brs B (2 * r) ∧ Brs B (2 * r) < Bkn B ∧ 0 ≤ Brs B (2 * r + 1) ∧ Brs B (2 * r + 1) < Bkn B) ∧
  (∀ r i, 0 ≤ r → r < Brn B → 0 ≤ i → i < Bra B r → 0 ≤ Brk B (12 * r + i) ∧ Brk B (12 * r + i) < Bkn B) ∧
  (∀ r t, 0 ≤ r → r < Brn B → RLiv B r t → RLiv B r (Brt B r t) ∧ Brt B r (Brt B r t) = t ∧ Brt B r t ≠ t)
def RuC (B : BkT) (h ro fk ac rg ak pw sw : Nat → Int32) : Prop := h 7 = I (Brn B) ∧
  (∀ a b, 0 ≤ a → a < Bkn B → 0 ≤ b → b < Bkn B → ro (16 * a + b).toNat = I (Bro B (16 * a + b))) ∧
  (∀ r, 0 ≤ r → r < Brn B → fk r.toNat = I (Brs B (2 * r)) ∧ ac r.toNat = I (Bra B r) ∧ rg r.toNat = Brr B r) ∧
  (∀ r i, 0 ≤ r → r < Brn B → 0 ≤ i → i < Bra B r → ak (12 * r + i).toNat = I (Brk B (12 * r + i))) ∧
  (∀ r t, 0 ≤ r → r < Brn B → RLiv B r t → t < 60 → pw (96 * r + (8 * (t / 5) + t % 5)).toNat = I (encR (Brt B r t))) ∧
  (∀ r t, 0 ≤ r → r < Brn B → RLiv B r t → 60 ≤ t → sw (8 * r + (4 * ((t - 60) / 5) + (t - 60) % 5 - 1)).toNat = I (encR (Brt B r t)))
def RuM (B : BkT) (h : Int32) (ro rs ra rk rt rg : Nat → Int32) : Prop := h = I (Brn B) ∧
  (∀ a b, 0 ≤ a → a < Bkn B → 0 ≤ b → b < Bkn B → ro (16 * a + b).toNat = I (Bro B (16 * a + b))) ∧
  (∀ r, 0 ≤ r → r < Brn B → rs (2 * r).toNat = I (Brs B (2 * r)) ∧ rs (2 * r + 1).toNat = I (Brs B (2 * r + 1)) ∧ ra r.toNat = I (Bra B r) ∧ rg r.toNat = Brr B r) ∧
  (∀ r i, 0 ≤ r → r < Brn B → 0 ≤ i → i < Bra B r → rk (12 * r + i).toNat = I (Brk B (12 * r + i))) ∧
  (∀ r t, 0 ≤ r → r < Brn B → RLiv B r t → rt (70 * r + t).toNat = I (Brt B r t))
/-- how many of the first n -/
def cnt (p : Int → Bool) : Nat → Int
  | 0 => 0
  | n + 1 => cnt p n + if p (n : Int) then 1 else 0
theorem cnt_b (p : Int → Bool) : ∀ n : Nat, 0 ≤ cnt p n ∧ cnt p n ≤ n
  | 0 => ⟨Int.le_refl _, Int.le_refl _⟩
  | n + 1 => by
    have := cnt_b p n
    rw [cnt]
    split <;> omega
theorem cnt_c {p q : Int → Bool} : ∀ n : Nat, (∀ i : Int, 0 ≤ i → i < n → p i = q i) → cnt p n = cnt q n
  | 0, _ => rfl
  | n + 1, h => by
    rw [cnt, cnt, cnt_c n (fun i h1 h2 => h i h1 (by omega)), h n (by omega) (by omega)]
/-- K: the kind of each agent or -1; w: what each place is wired to (5 times an agent and its port, -2 less an end); how many ends; rings -/
abbrev NtT : Type := (Int → Int) × (Int → Int) × Int × Int32
def Nk (N : NtT) : Int → Int := N.1
def Nw (N : NtT) : Int → Int := N.2.1
def Ne (N : NtT) : Int := N.2.2.1
def Nr (N : NtT) : Int32 := N.2.2.2
def NLiv (B : BkT) (N : NtT) (x : Int) : Prop := (x ≤ -2 ∧ -2 - x < Ne N) ∨ (0 ≤ x ∧ x < 2000 ∧ 0 ≤ Nk N (x / 5) ∧ x % 5 < Bpt B (Nk N (x / 5)))
def to8 (x : Int) : Int := if x < 0 then x else 8 * (x / 5) + x % 5
def Ncn (N : NtT) : Int := cnt (fun n => decide (0 ≤ Nk N n)) 400
def NetV (B : BkT) (N : NtT) : Prop := 0 ≤ Ne N ∧ Ne N ≤ 8 ∧ (∀ n, 0 ≤ n → n < 400 → -1 ≤ Nk N n ∧ Nk N n < Bkn B) ∧ ∀ x, NLiv B N x → NLiv B N (Nw N x) ∧ Nw N (Nw N x) = x ∧ Nw N x ≠ x
def NetC (B : BkT) (N : NtT) (h A W E : Nat → Int32) : Prop := (∀ n, 0 ≤ n → n < 400 → A n.toNat = I (Nk N n)) ∧
  (∀ x, NLiv B N x → 0 ≤ x → W (8 * (x / 5) + x % 5).toNat = I (to8 (Nw N x))) ∧
  (∀ x, NLiv B N x → x < 0 → E (-2 - x).toNat = I (to8 (Nw N x))) ∧
  h 3 = I (Ncn N) ∧ h 4 = I (Ne N) ∧ h 5 = Nr N ∧ ∃ t, 0 ≤ t ∧ t ≤ 400 ∧ h 6 = I t ∧ ∀ n, t ≤ n → n < 400 → Nk N n = -1
def NetM (B : BkT) (N : NtT) (A W E : Nat → Int32) (e g : Int32) : Prop := (∀ n, 0 ≤ n → n < 400 → A n.toNat = I (Nk N n)) ∧
  (∀ x, NLiv B N x → 0 ≤ x → W x.toNat = I (Nw N x)) ∧
  (∀ x, NLiv B N x → x < 0 → E (-2 - x).toNat = I (Nw N x)) ∧ e = I (Ne N) ∧ g = Nr N
def BkC (B : BkT) (σ : St) (b : Nat) : Prop := KdC B (σ.1 (b + 1)) (σ.2 (b + 2)) (σ.1 (b + 3)) (σ.1 (b + 4)) ∧ RuC B (σ.1 (b + 5)) (σ.1 (b + 6)) (σ.1 (b + 7)) (σ.1 (b + 8)) (σ.1 (b + 9)) (σ.1 (b + 10)) (σ.1 (b + 11)) (σ.1 (b + 12))
def BkM (B : BkT) (τ : St) : Prop := KdM B (τ.1 0 3) (τ.2 2) (τ.1 3) (τ.1 4) (τ.1 5) ∧ RuM B (τ.1 0 8) (τ.1 6) (τ.1 7) (τ.1 8) (τ.1 9) (τ.1 10) (τ.1 11)
def NtC (B : BkT) (N : NtT) (σ : St) (b : Nat) : Prop := NetC B N (σ.1 b) (σ.1 (b + 1)) (σ.1 (b + 2)) (σ.1 (b + 3))
def NtM (B : BkT) (N : NtT) (τ : St) : Prop := NetM B N (τ.1 12) (τ.1 13) (τ.1 14) (τ.1 0 18) (τ.1 0 19)
def ShM (B : BkT) (N : NtT) (τ : St) (s : Int) : Prop := NetM B N (fun j => τ.1 44 (400 * s.toNat + j)) (fun j => τ.1 45 (2000 * s.toNat + j)) (fun j => τ.1 46 (8 * s.toNat + j)) (τ.1 47 s.toNat) (τ.1 48 s.toNat)
/-- the tape -/
def TpR (σ τ : St) : Prop := ∃ n : Int, 0 ≤ n ∧ n ≤ 4000 ∧ σ.1 9 6 = I n ∧ τ.1 0 1 = I n ∧ ∀ i, 0 ≤ i → i < n → ∃ c : Int, 0 ≤ c ∧ c < 256 ∧ σ.1 10 i.toNat &&& (255 : Int32) = I c ∧ τ.1 1 i.toNat = I c
/-- what was printed -/
def OuR (σ τ : St) : Prop := ∃ n : Int, 0 ≤ n ∧ n ≤ 4000 ∧ σ.1 62 1 = I n ∧ τ.1 0 28 = I n ∧ ∀ i, 0 ≤ i → i < n → σ.1 63 i.toNat &&& (255 : Int32) = τ.1 16 i.toNat
/-- counts since read(); q bounds the steps -/
def JoR (N : NtT) (σ τ : St) (q : Int) : Prop := ∃ n m : Int, Ncn N ≤ m ∧ 0 ≤ n ∧ n ≤ q ∧ σ.1 36 1 = I n ∧ τ.1 0 20 = I n ∧ τ.1 0 26 = I n ∧ 0 ≤ m ∧ m ≤ 400 ∧ σ.1 36 2 = I m ∧ τ.1 0 21 = I m ∧ σ.1 36 3 = τ.1 0 22 ∧ σ.1 36 4 = τ.1 0 23 ∧ (τ.1 0 23 = 0 ∨ τ.1 0 23 = 1) ∧ ∀ j, 0 ≤ j → j < 50 → j < n → σ.1 37 j.toNat = τ.1 15 j.toNat
def ShR (B : BkT) (σ τ : St) (s : Int) : Prop := (σ.1 (39 + 4 * s.toNat) 7 = 0 ∧ τ.1 47 s.toNat = I (-1)) ∨ (σ.1 (39 + 4 * s.toNat) 7 = 1 ∧ ∃ N, NetV B N ∧ NtC B N σ (39 + 4 * s.toNat) ∧ ShM B N τ s ∧ ∃ m : Int, Ncn N ≤ m ∧ m ≤ 400 ∧ σ.1 36 2 = I m)
def Cor (B : BkT) (N : NtT) (σ τ : St) : Prop := KdV B ∧ RuV B ∧ NetV B N ∧ BkC B σ 64 ∧ BkM B τ ∧ NtC B N σ 77 ∧ NtM B N τ
def Sim (σ τ : St) (q : Int) : Prop := ∃ B N, Cor B N σ τ ∧ TpR σ τ ∧ OuR σ τ ∧ JoR N σ τ q ∧ (∀ s, 0 ≤ s → s < 4 → ShR B σ τ s) ∧ σ.1 1 7 = τ.1 0 2 ∧ σ.2 0 9 = τ.2 0 24 ∧ ∀ j, j < 80 → τ.1 20 j = 0 ∨ τ.1 20 j = 1
