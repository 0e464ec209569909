/-! numbers: an Int32 by an Int; programs that end -/
def I (z : Int) : Int32 := Int32.ofInt z
theorem I_toInt {z : Int} (h1 : -2147483648 ≤ z) (h2 : z < 2147483648) : (I z).toInt = z := Int32.toInt_ofInt_of_le (by omega) (by omega)
theorem I_of (x : Int32) : I x.toInt = x := Int32.ofInt_toInt x
theorem I_ex (x : Int32) : ∃ z : Int, x = I z ∧ -2147483648 ≤ z ∧ z < 2147483648 := ⟨x.toInt, (I_of x).symm, Int32.le_toInt x, Int32.toInt_lt x⟩
theorem I_add (a b : Int) : I a + I b = I (a + b) := (Int32.ofInt_add a b).symm
theorem I_sub (a b : Int) : I a - I b = I (a - b) := (Int32.ofInt_sub a b).symm
theorem I_mul (a b : Int) : I a * I b = I (a * b) := (Int32.ofInt_mul a b).symm
theorem I_neg (a : Int) : -I a = I (-a) := (Int32.ofInt_neg a).symm
theorem I_ofNat (n : Nat) : Int32.ofNat n = I n := Int32.ofInt_eq_ofNat.symm
theorem I_lt {a b : Int} (h1 : -2147483648 ≤ a) (h2 : a < 2147483648) (h3 : -2147483648 ≤ b) (h4 : b < 2147483648) : I a < I b ↔ a < b := by
  rw [Int32.lt_iff_toInt_lt, I_toInt h1 h2, I_toInt h3 h4]
theorem I_le {a b : Int} (h1 : -2147483648 ≤ a) (h2 : a < 2147483648) (h3 : -2147483648 ≤ b) (h4 : b < 2147483648) : I a ≤ I b ↔ a ≤ b := by
  rw [Int32.le_iff_toInt_le, I_toInt h1 h2, I_toInt h3 h4]
theorem I_eq {a b : Int} (h1 : -2147483648 ≤ a) (h2 : a < 2147483648) (h3 : -2147483648 ≤ b) (h4 : b < 2147483648) : I a = I b ↔ a = b := by
  rw [← Int32.toInt_inj, I_toInt h1 h2, I_toInt h3 h4]
theorem I_ix {a : Int} (h1 : -2147483648 ≤ a) (h2 : a < 2147483648) : (I a).toNatClampNeg = a.toNat := Int32.toNatClampNeg_ofInt_of_le (by omega) (by omega)
theorem I_inb {a : Int} {n : Nat} (h1 : -2147483648 ≤ a) (h2 : a < 2147483648) : inb (I a) n = true ↔ 0 ≤ a ∧ a < n := by
  have h0 : (0 : Int32) = I 0 := rfl
  simp only [inb, Bool.and_eq_true, decide_eq_true_eq, I_ix h1 h2]
  rw [h0, I_le (by omega) (by omega) h1 h2]
  omega
theorem I_div {a b : Int} (h1 : 0 ≤ a) (h2 : a < 2147483648) (h3 : 0 < b) (h4 : b < 2147483648) : I a / I b = I (a / b) := by
  have hb : I b ≠ -1 := by
    intro h
    have : (-1 : Int32) = I (-1) := rfl
    rw [this, I_eq (by omega) (by omega) (by omega) (by omega)] at h
    omega
  apply Int32.toInt.inj
  rw [Int32.toInt_div_of_ne_right _ _ hb, I_toInt (by omega) h2, I_toInt (by omega) h4, Int.tdiv_eq_ediv_of_nonneg h1]
  have h5 : 0 ≤ a / b := Int.ediv_nonneg h1 (by omega)
  have h6 : a / b ≤ a := Int.ediv_le_self b h1
  rw [I_toInt (by omega) (by omega)]
theorem I_shr3 {a : Int} (h1 : -2147483648 ≤ a) (h2 : a < 2147483648) : I a >>> ((3 : Int32) &&& 31) = I (a / 8) := by
  apply Int32.toInt.inj
  rw [I_toInt (by omega) (by omega), ← Int32.toInt_toBitVec, Int32.toBitVec_shiftRight, BitVec.toInt_sshiftRight', Int32.toInt_toBitVec, I_toInt h1 h2]
  have : (((3 : Int32) &&& 31).toBitVec.smod 32).toNat = 3 := by decide
  rw [this, Int.shiftRight_eq_div_pow]
  rfl
theorem I_shr1 {a : Int} (h1 : -2147483648 ≤ a) (h2 : a < 2147483648) : I a >>> ((1 : Int32) &&& 31) = I (a / 2) := by
  apply Int32.toInt.inj
  rw [I_toInt (by omega) (by omega), ← Int32.toInt_toBitVec, Int32.toBitVec_shiftRight, BitVec.toInt_sshiftRight', Int32.toInt_toBitVec, I_toInt h1 h2]
  have : (((1 : Int32) &&& 31).toBitVec.smod 32).toNat = 1 := by decide
  rw [this, Int.shiftRight_eq_div_pow]
  rfl
theorem I_bv {a : Int} (h1 : 0 ≤ a) (h2 : a < 2147483648) : (I a).toBitVec.toNat = a.toNat := by
  rw [show (I a).toBitVec = BitVec.ofInt 32 a from Int32.toBitVec_ofInt a, BitVec.toNat_ofInt]
  omega
theorem I_and7 {a : Int} (h1 : 0 ≤ a) (h2 : a < 2147483648) : I a &&& (7 : Int32) = I (a % 8) := by
  apply Int32.toBitVec.inj
  apply BitVec.eq_of_toNat_eq
  rw [Int32.toBitVec_and, BitVec.toNat_and, I_bv h1 h2, I_bv (by omega) (by omega)]
  have : (7 : Int32).toBitVec.toNat = 2 ^ 3 - 1 := by decide
  rw [this, Nat.and_two_pow_sub_one_eq_mod]
  omega
theorem I_not {a : Int} : I a ^^^ (-1 : Int32) = I (-1 - a) := by
  have h : I a ^^^ (-1 : Int32) = ~~~(I a) := by
    apply Int32.toBitVec.inj
    rw [Int32.toBitVec_xor, Int32.toBitVec_not]
    have : (-1 : Int32).toBitVec = BitVec.allOnes 32 := by decide
    rw [this, BitVec.xor_allOnes]
  rw [h, Int32.not_eq_neg_sub]
  have h1 : (1 : Int32) = I 1 := rfl
  rw [h1, I_neg, I_sub]
  congr 1
  omega
theorem I_lits : ((-1004 : Int32) = I (-1004)) ∧ ((-1003 : Int32) = I (-1003)) ∧ ((-1002 : Int32) = I (-1002)) ∧ ((-1001 : Int32) = I (-1001)) ∧ ((-100 : Int32) = I (-100)) ∧ ((-10 : Int32) = I (-10)) ∧ ((-8 : Int32) = I (-8)) ∧ ((-2 : Int32) = I (-2)) ∧ ((-1 : Int32) = I (-1)) ∧ ((0 : Int32) = I 0) ∧ ((1 : Int32) = I 1) ∧ ((2 : Int32) = I 2) ∧ ((3 : Int32) = I 3) ∧ ((4 : Int32) = I 4) ∧ ((5 : Int32) = I 5) ∧ ((6 : Int32) = I 6) ∧ ((7 : Int32) = I 7) ∧ ((8 : Int32) = I 8) ∧ ((9 : Int32) = I 9) ∧ ((10 : Int32) = I 10) ∧ ((11 : Int32) = I 11) ∧ ((12 : Int32) = I 12) ∧ ((16 : Int32) = I 16) ∧ ((20 : Int32) = I 20) ∧ ((24 : Int32) = I 24) ∧ ((32 : Int32) = I 32) ∧ ((33 : Int32) = I 33) ∧ ((35 : Int32) = I 35) ∧ ((40 : Int32) = I 40) ∧ ((41 : Int32) = I 41) ∧ ((43 : Int32) = I 43) ∧ ((44 : Int32) = I 44) ∧ ((45 : Int32) = I 45) ∧ ((46 : Int32) = I 46) ∧ ((48 : Int32) = I 48) ∧ ((50 : Int32) = I 50) ∧ ((56 : Int32) = I 56) ∧ ((57 : Int32) = I 57) ∧ ((58 : Int32) = I 58) ∧ ((59 : Int32) = I 59) ∧ ((60 : Int32) = I 60) ∧ ((61 : Int32) = I 61) ∧ ((62 : Int32) = I 62) ∧ ((64 : Int32) = I 64) ∧ ((65 : Int32) = I 65) ∧ ((70 : Int32) = I 70) ∧ ((80 : Int32) = I 80) ∧ ((90 : Int32) = I 90) ∧ ((96 : Int32) = I 96) ∧ ((97 : Int32) = I 97) ∧ ((120 : Int32) = I 120) ∧ ((122 : Int32) = I 122) ∧ ((126 : Int32) = I 126) ∧ ((200 : Int32) = I 200) ∧ ((255 : Int32) = I 255) ∧ ((256 : Int32) = I 256) ∧ ((400 : Int32) = I 400) ∧ ((720 : Int32) = I 720) ∧ ((1000 : Int32) = I 1000) ∧ ((1200 : Int32) = I 1200) ∧ ((1210 : Int32) = I 1210) ∧ ((1211 : Int32) = I 1211) ∧ ((1600 : Int32) = I 1600) ∧ ((1720 : Int32) = I 1720) ∧ ((1728 : Int32) = I 1728) ∧ ((2000 : Int32) = I 2000) ∧ ((3000 : Int32) = I 3000) ∧ ((3200 : Int32) = I 3200) ∧ ((4000 : Int32) = I 4000) ∧ ((4200 : Int32) = I 4200) ∧ ((10000 : Int32) = I 10000) := by
  refine ⟨rfl, rfl, rfl, rfl, rfl, rfl, rfl, rfl, rfl, rfl, rfl, rfl, rfl, rfl, rfl, rfl, rfl, rfl, rfl, rfl, rfl, rfl, rfl, rfl, rfl, rfl, rfl, rfl, rfl, rfl, rfl, rfl, rfl, rfl, rfl, rfl, rfl, rfl, rfl, rfl, rfl, rfl, rfl, rfl, rfl, rfl, rfl, rfl, rfl, rfl, rfl, rfl, rfl, rfl, rfl, rfl, rfl, rfl, rfl, rfl, rfl, rfl, rfl, rfl, rfl, rfl, rfl, rfl, rfl, rfl, rfl⟩
/-- what turns rows of Int32 into rows of Int -/
theorem nz : (∀ a b, I a + I b = I (a + b)) ∧ (∀ a b, I a - I b = I (a - b)) ∧ (∀ a b, I a * I b = I (a * b)) ∧ (∀ a, -I a = I (-a)) := ⟨I_add, I_sub, I_mul, I_neg⟩
theorem nc : (∀ {a b : Int}, -2147483648 ≤ a → a < 2147483648 → -2147483648 ≤ b → b < 2147483648 → (I a < I b ↔ a < b)) ∧ (∀ {a b : Int}, -2147483648 ≤ a → a < 2147483648 → -2147483648 ≤ b → b < 2147483648 → (I a ≤ I b ↔ a ≤ b)) ∧ (∀ {a b : Int}, -2147483648 ≤ a → a < 2147483648 → -2147483648 ≤ b → b < 2147483648 → (I a = I b ↔ a = b)) ∧ (∀ {a : Int}, -2147483648 ≤ a → a < 2147483648 → (I a).toNatClampNeg = a.toNat) ∧ (∀ {a : Int} {n : Nat}, -2147483648 ≤ a → a < 2147483648 → (inb (I a) n = true ↔ 0 ≤ a ∧ a < n)) ∧ (∀ {a b : Int}, 0 ≤ a → a < 2147483648 → 0 < b → b < 2147483648 → I a / I b = I (a / b)) :=
  ⟨I_lt, I_le, I_eq, I_ix, I_inb, I_div⟩
theorem lg_cmp0 {x y : Int64} : lg_cmp x y = 0 ↔ x = y := by
  unfold lg_cmp
  by_cases h : x > y
  · rw [if_pos h]
    constructor
    · intro q; exact absurd q (by decide)
    · intro q; subst q; exact absurd h (Int64.lt_irrefl)
  · rw [if_neg h]
    by_cases h2 : x = y
    · simp [h2]
    · rw [if_neg h2]
      constructor
      · intro q; exact absurd q (by decide)
      · intro q; exact absurd q h2
theorem x12_in {a b c : Int64} : f_X12_in a b c = if b.toInt ≤ a.toInt ∧ a.toInt ≤ c.toInt then (1 : Int32) else 0 := by
  unfold f_X12_in
  simp only [lg_cmp_ge, lg_cmp_le, Int64.le_iff_toInt_le]
theorem x64 : (0 : Int64).toInt = 0 ∧ (3 : Int64).toInt = 3 ∧ (6 : Int64).toInt = 6 ∧ (399 : Int64).toInt = 399 ∧ (3000 : Int64).toInt = 3000 := by decide
theorem i01 : ¬ ((1 : Int32) = 0) := by decide
/-! programs that end -/
def Ok {R : Type} (X : Option R) (P : R → Prop) : Prop := ∃ q, X = some q ∧ P q
theorem ok_bind {R R' : Type} {X : Option R'} {k : R' → Option R} {P : R → Prop} : Ok (Option.bind X k) P ↔ Ok X (fun q => Ok (k q) P) := by
  cases X with
  | none => simp [Ok]
  | some u => simp [Ok]
theorem ok_some {R : Type} {q : R} {P : R → Prop} : Ok (some q) P ↔ P q := by simp [Ok]
theorem ok_none {R : Type} {P : R → Prop} : Ok (none : Option R) P ↔ False := by simp [Ok]
theorem ok_ite {R : Type} {c : Prop} [Decidable c] {A B : Option R} {P : R → Prop} : Ok (if c then A else B) P ↔ (c → Ok A P) ∧ (¬ c → Ok B P) := by
  by_cases h : c <;> simp [h]
theorem ok_iteP {R : Type} {c : Prop} [Decidable c] {A B : Option R} {P : R → Prop} (h : c) : Ok (if c then A else B) P ↔ Ok A P := by simp [h]
theorem ok_iteN {R : Type} {c : Prop} [Decidable c] {A B : Option R} {P : R → Prop} (h : ¬ c) : Ok (if c then A else B) P ↔ Ok B P := by simp [h]
theorem ok_mono {R : Type} {X : Option R} {P Q : R → Prop} (h : Ok X P) (k : ∀ q, P q → Q q) : Ok X Q := by
  obtain ⟨q, h1, h2⟩ := h
  exact ⟨q, h1, k q h2⟩
theorem ok_eq {R : Type} {X : Option R} {q : R} {P : R → Prop} (h : X = some q) (k : P q) : Ok X P := ⟨q, h, k⟩
theorem ok_and {R : Type} {X : Option R} {P Q : R → Prop} (h : Ok X P) (k : Ok X Q) : Ok X (fun q => P q ∧ Q q) := by
  obtain ⟨q, h1, h2⟩ := h
  obtain ⟨r, h3, h4⟩ := k
  rw [h1] at h3
  cases h3
  exact ⟨q, h1, h2, h4⟩
/-! cells -/
theorem seti1 (σ : St) (k j : Nat) (v : Int32) (a b : Nat) : (seti σ k j v).1 a b = if a = k ∧ b = j then v else σ.1 a b := rfl
theorem seti2 (σ : St) (k j : Nat) (v : Int32) : (seti σ k j v).2 = σ.2 := rfl
theorem setl1 (σ : St) (k j : Nat) (v : Int64) : (setl σ k j v).1 = σ.1 := rfl
theorem setl2 (σ : St) (k j : Nat) (v : Int64) (a b : Nat) : (setl σ k j v).2 a b = if a = k ∧ b = j then v else σ.2 a b := rfl
theorem seti_r {σ : St} {k j a : Nat} {v : Int32} (h : a ≠ k) : (seti σ k j v).1 a = σ.1 a := by
  funext b
  rw [seti1, if_neg (fun q => h q.1)]
theorem setl_r {σ : St} {k j a : Nat} {v : Int64} (h : a ≠ k) : (setl σ k j v).2 a = σ.2 a := by
  funext b
  rw [setl2, if_neg (fun q => h q.1)]
theorem setr_r {σ : St} {k a : Nat} {f : Nat → Int32} (h : a ≠ k) : (setr σ k f).1 a = σ.1 a := by
  funext b
  show (if a = k then f b else σ.1 a b) = _
  rw [if_neg h]
theorem setr1 (σ : St) (k a b : Nat) (f : Nat → Int32) : (setr σ k f).1 a b = if a = k then f b else σ.1 a b := rfl
theorem setr2 (σ : St) (k : Nat) (f : Nat → Int32) : (setr σ k f).2 = σ.2 := rfl
theorem toNat_eq {a b : Int} (ha : 0 ≤ a) (hb : 0 ≤ b) : a.toNat = b.toNat ↔ a = b := by omega
