/-! numbers that are written -/
theorem Ieq (x : Int32) (b : Int) {a : Int} (h1 : -2147483648 ≤ a) (h2 : a < 2147483648) (h3 : -2147483648 ≤ b) (h4 : b < 2147483648) (hx : x = I b := by rfl) : I a = x ↔ a = b := by rw [hx]; exact I_eq h1 h2 h3 h4
theorem Ilt (x : Int32) (b : Int) {a : Int} (h1 : -2147483648 ≤ a) (h2 : a < 2147483648) (h3 : -2147483648 ≤ b) (h4 : b < 2147483648) (hx : x = I b := by rfl) : I a < x ↔ a < b := by rw [hx]; exact I_lt h1 h2 h3 h4
theorem Ile (x : Int32) (b : Int) {a : Int} (h1 : -2147483648 ≤ a) (h2 : a < 2147483648) (h3 : -2147483648 ≤ b) (h4 : b < 2147483648) (hx : x = I b := by rfl) : I a ≤ x ↔ a ≤ b := by rw [hx]; exact I_le h1 h2 h3 h4
theorem Ieq' (x : Int32) (b : Int) {a : Int} (h1 : -2147483648 ≤ b) (h2 : b < 2147483648) (h3 : -2147483648 ≤ a) (h4 : a < 2147483648) (hx : x = I b := by rfl) : x = I a ↔ b = a := by rw [hx]; exact I_eq h1 h2 h3 h4
theorem Ilt' (x : Int32) (b : Int) {a : Int} (h1 : -2147483648 ≤ b) (h2 : b < 2147483648) (h3 : -2147483648 ≤ a) (h4 : a < 2147483648) (hx : x = I b := by rfl) : x < I a ↔ b < a := by rw [hx]; exact I_lt h1 h2 h3 h4
theorem Ile' (x : Int32) (b : Int) {a : Int} (h1 : -2147483648 ≤ b) (h2 : b < 2147483648) (h3 : -2147483648 ≤ a) (h4 : a < 2147483648) (hx : x = I b := by rfl) : x ≤ I a ↔ b ≤ a := by rw [hx]; exact I_le h1 h2 h3 h4
theorem lgI {x y : Int64} : lg_cmp x y = I 0 ↔ x = y := lg_cmp0
/-! reading: drafts, places in the text, faults -/
abbrev DrT : Type := Int × (Int → Int) × (Int → Int) × Int × (Int → Int64) × (Int → Int)
def Dna (D : DrT) : Int := D.1
def Dak (D : DrT) : Int → Int := D.2.1
def Dap (D : DrT) : Int → Int := D.2.2.1
def Dnn (D : DrT) : Int := D.2.2.2.1
def Dnm (D : DrT) : Int → Int64 := D.2.2.2.2.1
def Dtm (D : DrT) : Int → Int := D.2.2.2.2.2
def DrV (B : BkT) (L T : Int) (D : DrT) : Prop := 0 ≤ Dna D ∧ Dna D ≤ L ∧ (∀ a, 0 ≤ a → a < Dna D → 0 ≤ Dak D a ∧ Dak D a < Bkn B) ∧ 0 ≤ Dnn D ∧ Dnn D ≤ 60 ∧ ∀ n, 0 ≤ n → n < Dnn D → 1 ≤ Dtm D n ∧ Dtm D n ≤ T
def DrC (D : DrT) (σ : St) : Prop := σ.1 2 5 = I (Dna D) ∧ σ.1 2 6 = I (Dnn D) ∧ (∀ a, 0 ≤ a → a < Dna D → σ.1 4 a.toNat = I (Dak D a)) ∧ ∀ n, 0 ≤ n → n < Dnn D → σ.2 5 n.toNat = Dnm D n ∧ σ.1 6 n.toNat = I (Dtm D n) ∧ σ.1 7 n.toNat = I 0
def DrM (L : Int) (D : DrT) (τ : St) : Prop := τ.1 0 49 = I (Dna D) ∧ τ.1 0 50 = I L ∧ τ.1 0 54 = I (Dnn D) ∧ (∀ a, 0 ≤ a → a < Dna D → τ.1 27 a.toNat = I (Dak D a) ∧ τ.1 28 a.toNat = I (Dap D a)) ∧ ∀ n, 0 ≤ n → n < Dnn D → τ.2 30 n.toNat = Dnm D n ∧ τ.1 31 n.toNat = I (Dtm D n)
/-- what reading a sheet leaves alone -/
def FrD (σ0 σ : St) : Prop := (∀ c, c = 0 ∨ 10 ≤ c → σ.1 c = σ0.1 c) ∧ (∀ j, j ≠ 2 → j ≠ 4 → j ≠ 7 → σ.1 1 j = σ0.1 1 j) ∧ (σ.1 9 6 = σ0.1 9 6 ∧ σ.1 2 7 = σ0.1 2 7) ∧ ∀ c, c ≠ 5 → c ≠ 9 → σ.2 c = σ0.2 c
def FrE (τ0 τ : St) : Prop := (∀ c, (1 ≤ c ∧ c ≤ 26) ∨ 37 ≤ c → τ.1 c = τ0.1 c) ∧ (∀ j, (j ≤ 28 ∧ j ≠ 2) ∨ (36 ≤ j ∧ j ≠ 49 ∧ j ≠ 50 ∧ j ≠ 54 ∧ j ≠ 60) → τ.1 0 j = τ0.1 0 j) ∧ (∀ c, c ≠ 0 → c ≠ 30 → τ.2 c = τ0.2 c) ∧ ∀ j, j ≠ 32 → τ.2 0 j = τ0.2 0 j
def Dis (B : BkT) : Prop := ∀ i j, 0 ≤ i → i < Bkn B → 0 ≤ j → j < Bkn B → Bnm B i = Bnm B j → i = j
def EnvH (F : Nat) (n : Int) (ch : Int → Int) (K : TkT) (N : Int) (B : BkT) (L : Int) (σ0 τ0 : St) : Prop := TxA n ch ∧ Tks n ch K N ∧ 10000 ≤ F ∧ KdV B ∧ Dis B ∧ KdC B (σ0.1 15) (σ0.2 16) (σ0.1 17) (σ0.1 18) ∧ KdM B (τ0.1 0 36) (τ0.2 17) (τ0.1 18) (τ0.1 19) (τ0.1 20) ∧ (L = 12 ∨ L = 200)
def Rel (n : Int) (ch : Int → Int) (K : TkT) (N : Int) (B : BkT) (L : Int) (σ0 τ0 : St) (kc km : Int) (D : DrT) (σ τ : St) : Prop := AtC K N kc σ ∧ AtM n ch K N km τ ∧ FrD σ0 σ ∧ FrE τ0 τ ∧ DrV B L kc D ∧ DrC D σ ∧ DrM L D τ ∧ σ.1 1 4 = I 0 ∧ σ.1 1 2 = I (if L = 12 then 1 else 0)
def Flt (σ0 τ0 σ τ : St) : Prop := FrD σ0 σ ∧ FrE τ0 τ ∧ ∃ c z : Int, 1 ≤ c ∧ c ≤ 7 ∧ σ.1 1 4 = I c ∧ τ.1 0 35 = I c ∧ σ.1 1 7 = I z ∧ τ.1 0 2 = I z
theorem frd_rfl (σ : St) : FrD σ σ := ⟨fun _ _ => rfl, fun _ _ _ _ => rfl, ⟨rfl, rfl⟩, fun _ _ _ => rfl⟩
theorem fre_rfl (τ : St) : FrE τ τ := ⟨fun _ _ => rfl, fun _ _ => rfl, fun _ _ _ => rfl, fun _ _ => rfl⟩
theorem frd_tr {σ0 σ g : St} (h : FrD σ0 σ) (h' : FrD σ g) : FrD σ0 g := ⟨fun c a => by rw [h'.1 c a, h.1 c a], fun j a b c => by rw [h'.2.1 j a b c, h.2.1 j a b c], ⟨by rw [h'.2.2.1.1, h.2.2.1.1], by rw [h'.2.2.1.2, h.2.2.1.2]⟩, fun c a b => by rw [h'.2.2.2 c a b, h.2.2.2 c a b]⟩
theorem fre_tr {τ0 τ g : St} (h : FrE τ0 τ) (h' : FrE τ g) : FrE τ0 g := ⟨fun c a => by rw [h'.1 c a, h.1 c a], fun j a => by rw [h'.2.1 j a, h.2.1 j a], fun c a b => by rw [h'.2.2.1 c a b, h.2.2.1 c a b], fun j a => by rw [h'.2.2.2 j a, h.2.2.2 j a]⟩
theorem frd_i {σ : St} {c j : Nat} {v : Int32} (h : (2 ≤ c ∧ c ≤ 8 ∧ (c ≠ 2 ∨ j ≠ 7)) ∨ (c = 1 ∧ (j = 2 ∨ j = 4 ∨ j = 7))) : FrD σ (seti σ c j v) := ⟨fun d a => seti_r (by omega), fun i a b d => by rw [seti1, if_neg (by omega)], ⟨by rw [seti1, if_neg (by omega)], by rw [seti1, if_neg (by omega)]⟩, fun _ _ _ => rfl⟩
theorem frd_l {σ : St} {j : Nat} {v : Int64} : FrD σ (setl σ 5 j v) := ⟨fun _ _ => rfl, fun _ _ _ _ => rfl, ⟨rfl, rfl⟩, fun c a b => setl_r a⟩
theorem frd_v {σ g : St} (h : FrV σ g) : FrD σ g := ⟨fun c a => h.1 c (by omega), fun j _ _ _ => by rw [h.1 1 (by omega)], ⟨h.2.1 6 (by omega) (by omega) (by omega), by rw [h.1 2 (by omega)]⟩, fun c _ a => h.2.2.1 c a⟩
theorem fre_t {τ g : St} (h : FrT τ g) : FrE τ g := ⟨fun c a => h.1 c (by omega), fun j a => h.2.1 j (by omega) (by omega) (by omega) (by omega) (by omega), fun c a _ => h.2.2.1 c a, fun j a => h.2.2.2 j a⟩
theorem fre_i {τ : St} {c j : Nat} {v : Int32} (h : (27 ≤ c ∧ c ≤ 36) ∨ (c = 0 ∧ (j = 2 ∨ j = 35 ∨ j = 49 ∨ j = 50 ∨ j = 54 ∨ j = 60))) : FrE τ (seti τ c j v) := ⟨fun d a => seti_r (by omega), fun i a => by rw [seti1, if_neg (by omega)], fun _ _ _ => rfl, fun _ _ => rfl⟩
theorem fre_l {τ : St} {j : Nat} {v : Int64} : FrE τ (setl τ 30 j v) := ⟨fun _ _ => rfl, fun _ _ => rfl, fun c _ a => setl_r a, fun i _ => by rw [setl2, if_neg (by omega)]⟩
/-! tokens -/
def TT (T : Int) : Prop := (0 ≤ T ∧ T ≤ 4) ∨ isSg T = true
theorem tt_b {T : Int} (h : TT T) : 0 ≤ T ∧ T < 256 := by
  rcases h with h | h
  · omega
  · rcases isSg_iff.mp h with h | h | h | h | h | h | h | h <;> omega
theorem mty3 {T : Int} (h : TT T) : (mty T = 3 ↔ isSg T = true) := by
  constructor
  · intro q
    rcases h with h | h
    · exfalso
      have hT : T = 0 ∨ T = 1 ∨ T = 2 ∨ T = 3 ∨ T = 4 := by omega
      rcases hT with e | e | e | e | e <;> (subst e; exact absurd q (by decide))
    · exact h
  · exact mty_sg
theorem mty_c {T : Int} (h : TT T) : (mty T = 1 ↔ T = 2) ∧ (mty T = 2 ↔ T = 3) ∧ (mty T = 4 ↔ T = 4) ∧ (mty T = 6 ↔ T = 0) ∧ (mty T = 5 ↔ T = 1) ∧ 1 ≤ mty T ∧ mty T ≤ 6 := by
  unfold mty
  have := tt_b h
  by_cases h0 : T = 0
  · subst h0; decide
  by_cases h1 : T = 1
  · subst h1; decide
  by_cases h2 : T = 2
  · subst h2; decide
  by_cases h3 : T = 3
  · subst h3; decide
  by_cases h4 : T = 4
  · subst h4; decide
  rw [if_neg h2, if_neg h3, if_neg h4, if_neg h0, if_neg h1]
  refine ⟨⟨fun q => absurd q (by decide), fun q => absurd q h2⟩, ⟨fun q => absurd q (by decide), fun q => absurd q h3⟩, ⟨fun q => absurd q (by decide), fun q => absurd q h4⟩, ⟨fun q => absurd q (by decide), fun q => absurd q h0⟩, ⟨fun q => absurd q (by decide), fun q => absurd q h1⟩, by decide, by decide⟩
section RDB
variable {n : Int} {ch : Int → Int} {K : TkT} {N : Int} {F : Nat}
theorem tks_T (hK : Tks n ch K N) {k : Int} (k0 : 0 ≤ k) (k1 : k < N) : TT (kT K k) ∧ (kT K k ≠ 1 → nx N k = k + 1 ∧ k + 1 < N) ∧ 0 ≤ kS K k ∧ kS K k ≤ n := by
  obtain ⟨N1, N2, hT, hL, hB0, hB⟩ := hK
  unfold nx
  by_cases hk : k = N - 1
  · rw [hk, hL.1, hL.2.1]
    exact ⟨Or.inl ⟨by decide, by decide⟩, fun q => absurd rfl q, by omega, by omega⟩
  · have h := hT k k0 (by omega)
    refine ⟨?_, fun _ => ⟨if_pos (by omega), by omega⟩, h.1, by omega⟩
    obtain ⟨r, hr, h' | h' | h'⟩ := h.2.2.2.2
    · rw [h'.2.1]
      rcases tyA_or ch (kS K k) r with e | e | e <;> (rw [e]; exact Or.inl ⟨by decide, by decide⟩)
    · rw [h'.2.2.2.1]; exact Or.inl ⟨by decide, by decide⟩
    · rw [h'.2.2.2.2.1]
      by_cases e : isSg (ch (kS K k)) = true
      · rw [if_pos e]; exact Or.inr e
      · rw [if_neg e]; exact Or.inl ⟨by decide, by decide⟩
theorem nx_b {k : Int} (k0 : 0 ≤ k) (k1 : k < N) : k ≤ nx N k ∧ nx N k < N := by
  unfold nx; split <;> omega
theorem m_sg {τ : St} {k c : Int} (hK : Tks n ch K N) (h : AtM n ch K N k τ) (hc : isSg c = true) : f_X12_isSign (I c) τ = I (if kT K k = c then 1 else 0) := by
  have tk := (tks_T hK h.2.1 h.2.2.1).1
  have b := tt_b tk
  have b2 := tt_b (Or.inr hc : TT c)
  have m := mty_c tk
  unfold f_X12_isSign
  rw [h.2.2.2.1]
  by_cases e : mty (kT K k) = 3
  · rw [h.2.2.2.2.2.2.2 e, e]
    by_cases q : kT K k = c
    · rw [if_pos ⟨rfl, by rw [q]⟩, if_pos q]; rfl
    · rw [if_neg (fun w => q ((I_eq (by omega) (by omega) (by omega) (by omega)).mp w.2)), if_neg q]; rfl
  · rw [if_neg (fun w => e ((Ieq (3) (3) (by omega) (by omega) (by omega) (by omega)).mp w.1)), if_neg (fun w => e ((mty3 tk).mpr (by rw [w]; exact hc)))]; rfl
/-- refuse and fail -/
theorem flt_go {σ0 τ0 σ τ : St} (h1 : FrD σ0 σ) (h2 : FrE τ0 τ) {c z : Int} (c1 : 1 ≤ c) (c7 : c ≤ 7) : Flt σ0 τ0 (seti (seti σ 1 4 (I c)) 1 7 (I z)) (seti (seti τ 0 35 (I c)) 0 2 (I z)) :=
  ⟨frd_tr h1 (frd_tr (frd_i (by omega)) (frd_i (by omega))), fre_tr h2 (fre_tr (fre_i (by omega)) (fre_i (by omega))), c, z, c1, c7, by rw [seti1, if_neg (by omega), seti1, if_pos ⟨rfl, rfl⟩], by rw [seti1, if_neg (by omega), seti1, if_pos ⟨rfl, rfl⟩], by rw [seti1, if_pos ⟨rfl, rfl⟩], by rw [seti1, if_pos ⟨rfl, rfl⟩]⟩
theorem c_refuse {σ : St} {k c : Int} (h : AtC K N k σ) : f_X6_refuse (I c) σ = some (seti (seti σ 1 4 (I c)) 1 7 (I (kS K k))) := by
  unfold f_X6_refuse
  rw [Option.bind_some, seti_r (show (9 : Nat) ≠ 1 by omega), h.2.2.2.2.2.1]
  rfl
theorem m_fail {τ : St} {c z : Int} : f_X12_fail (I c) (I z) τ = some (I 0, seti (seti τ 0 35 (I c)) 0 2 (I z)) := rfl
def wc (T : Int) : Int := if T = 0 then 1 else 2
theorem wc_b (T : Int) : 1 ≤ wc T ∧ wc T ≤ 7 := by unfold wc; split <;> omega
theorem c_wrong {σ : St} {k : Int} (hK : Tks n ch K N) (h : AtC K N k σ) : f_X6_refuseToken σ = some (seti (seti σ 1 4 (I (wc (kT K k)))) 1 7 (I (kS K k))) := by
  have b := tt_b (tks_T hK h.2.1 h.2.2.1).1
  unfold f_X6_refuseToken wc
  rw [h.2.2.2.2.1]
  by_cases e : kT K k = 0
  · rw [e, if_pos (show I 0 = (0 : Int32) from rfl), if_pos rfl, Option.bind_some, Option.bind_some, seti_r (show (9 : Nat) ≠ 1 by omega), h.2.2.2.2.2.1]; rfl
  · rw [if_neg (fun w => e ((Ieq (0) (0) (by omega) (by omega) (by omega) (by omega)).mp w)), if_neg e, Option.bind_some, Option.bind_some, seti_r (show (9 : Nat) ≠ 1 by omega), h.2.2.2.2.2.1]; rfl
theorem m_wrong {τ : St} {k : Int} (hK : Tks n ch K N) (h : AtM n ch K N k τ) : f_X12_wrong τ = some (I 0, seti (seti τ 0 35 (I (wc (kT K k)))) 0 2 (I (kS K k))) := by
  have tk := (tks_T hK h.2.1 h.2.2.1).1
  have m := mty_c tk
  unfold f_X12_wrong wc
  rw [h.2.2.2.1, h.2.2.2.2.1]
  by_cases e : kT K k = 0
  · rw [e, if_pos (by rfl), if_pos rfl, Option.bind_some]; rfl
  · rw [if_neg (fun w => e (m.2.2.2.1.mp ((Ieq (6) (6) (by omega) (by omega) (by omega) (by omega)).mp w))), if_neg e, Option.bind_some]; rfl
end RDB
section REL
variable {n : Int} {ch : Int → Int} {K : TkT} {N : Int} {B : BkT} {L : Int} {σ0 τ0 : St} {kc km : Int} {D : DrT} {σ τ : St} {F : Nat}
theorem dv_mono {T T' : Int} (h : DrV B L T D) (e : T ≤ T') : DrV B L T' D := ⟨h.1, h.2.1, h.2.2.1, h.2.2.2.1, h.2.2.2.2.1, fun x a b => ⟨(h.2.2.2.2.2 x a b).1, by have := (h.2.2.2.2.2 x a b).2; omega⟩⟩
theorem dc_fr {g : St} (h : DrC D σ) (e : ∀ c, c = 2 ∨ c = 4 ∨ c = 6 ∨ c = 7 → g.1 c = σ.1 c) (e5 : g.2 5 = σ.2 5) : DrC D g := by
  unfold DrC
  rw [e 2 (by omega), e 4 (by omega), e 6 (by omega), e 7 (by omega), e5]
  exact h
theorem dm_fr {g : St} (h : DrM L D τ) (e : ∀ c, c = 27 ∨ c = 28 ∨ c = 31 → g.1 c = τ.1 c) (e0 : ∀ j, j = 49 ∨ j = 50 ∨ j = 54 → g.1 0 j = τ.1 0 j) (e5 : g.2 30 = τ.2 30) : DrM L D g := by
  unfold DrM
  rw [e 27 (by omega), e 28 (by omega), e 31 (by omega), e0 49 (by omega), e0 50 (by omega), e0 54 (by omega), e5]
  exact h
theorem rel_adv (E : EnvH F n ch K N B L σ0 τ0) (h : Rel n ch K N B L σ0 τ0 kc km D σ τ) : ∃ g, f_X9_advance σ = some g ∧ FrV σ g ∧ Rel n ch K N B L σ0 τ0 (nx N kc) km D g τ := by
  obtain ⟨h1, h2, h3, h4, h5, h6, h7, h8, h9⟩ := h
  have t := E.2.1
  have tn := E.1.2.1
  obtain ⟨g, g1, g2, g3⟩ := c_adv h1.1 t.1 (by have := t.2.1; omega) (by have := h1.2.1; omega) h1.2.2.1 h1.2.2.2.1
  exact ⟨g, g1, g2, g3, h2, frd_tr h3 (frd_v g2), h4, dv_mono h5 (nx_b h1.2.1 h1.2.2.1).1, dc_fr h6 (fun c a => g2.1 c (by omega)) (g2.2.2.1 5 (by omega)), h7, by rw [g2.1 1 (by omega)]; exact h8, by rw [g2.1 1 (by omega)]; exact h9⟩
theorem rel_take (E : EnvH F n ch K N B L σ0 τ0) (h : Rel n ch K N B L σ0 τ0 kc km D σ τ) : ∃ g, f_X12_take F τ = some g ∧ FrT τ g ∧ Rel n ch K N B L σ0 τ0 kc (nx N km) D σ g := by
  obtain ⟨h1, h2, h3, h4, h5, h6, h7, h8, h9⟩ := h
  obtain ⟨g, g1, g2, g3⟩ := m_take_nx E.1 E.2.2.1 E.2.1 h2
  exact ⟨g, g1, g2, h1, g3, h3, fre_tr h4 (fre_t g2), h5, h6, dm_fr h7 (fun c a => g2.1 c (by omega)) (fun j a => g2.2.1 j (by omega) (by omega) (by omega) (by omega) (by omega)) (g2.2.2.1 30 (by omega)), h8, h9⟩
/-- a change of cells that count for nothing here -/
theorem rel_c {g : St} (h : Rel n ch K N B L σ0 τ0 kc km D σ τ) (e : ∀ c, c ≠ 3 → c ≠ 8 → g.1 c = σ.1 c) (e2 : g.2 = σ.2) : Rel n ch K N B L σ0 τ0 kc km D g τ := by
  obtain ⟨⟨h1, k1, k2, k3, k4, k5, k6⟩, h2, h3, h4, h5, h6, h7, h8, h9⟩ := h
  refine ⟨⟨⟨⟨by rw [e 9 (by omega) (by omega)]; exact h1.1.1, fun j a b => ?_⟩, by rw [e 1 (by omega) (by omega)]; exact h1.2⟩, k1, k2, ?_, ?_, ?_, ?_⟩, h2, ⟨fun c a => ?_, fun j a b c => ?_, ?_, fun c a b => ?_⟩, h4, h5, dc_fr h6 (fun c a => e c (by omega) (by omega)) (by rw [e2]), h7, ?_, ?_⟩
  · rw [e 11 (by omega) (by omega), e 12 (by omega) (by omega), e2]; exact h1.1.2 j a b
  · rw [e 9 (by omega) (by omega)]; exact k3
  · rw [e 9 (by omega) (by omega)]; exact k4
  · rw [e 9 (by omega) (by omega)]; exact k5
  · rw [e2]; exact k6
  · rw [e c (by omega) (by omega)]; exact h3.1 c a
  · rw [e 1 (by omega) (by omega)]; exact h3.2.1 j a b c
  · rw [e 9 (by omega) (by omega), e 2 (by omega) (by omega)]; exact h3.2.2.1
  · rw [e2]; exact h3.2.2.2 c a b
  · rw [e 1 (by omega) (by omega)]; exact h8
  · rw [e 1 (by omega) (by omega)]; exact h9
theorem rel_m {g : St} (h : Rel n ch K N B L σ0 τ0 kc km D σ τ) (e : ∀ c, c ≠ 0 → c ≠ 29 → c ≠ 32 → c ≠ 33 → c ≠ 34 → g.1 c = τ.1 c) (e0 : ∀ j, j ≠ 60 → g.1 0 j = τ.1 0 j) (e2 : g.2 = τ.2) : Rel n ch K N B L σ0 τ0 kc km D σ g := by
  obtain ⟨h1, ⟨k0, k1, k2, k3⟩, h3, h4, h5, h6, h7, h8, h9⟩ := h
  refine ⟨h1, ⟨⟨⟨by rw [e0 1 (by omega)]; exact k0.1.1, fun i a b => by rw [e 1 (by omega) (by omega) (by omega) (by omega) (by omega)]; exact k0.1.2 i a b⟩, by rw [e0 2 (by omega)]; exact k0.2⟩, k1, k2, ?_⟩, h3, ⟨fun c a => ?_, fun j a => ?_, fun c a b => ?_, fun j a => ?_⟩, h5, h6, dm_fr h7 (fun c a => e c (by omega) (by omega) (by omega) (by omega) (by omega)) (fun j a => e0 j (by omega)) (by rw [e2]), h8, h9⟩
  · unfold RfT
    rw [e0 29 (by omega), e0 30 (by omega), e0 31 (by omega), e0 33 (by omega), e0 34 (by omega), e2]
    exact k3
  · rw [e c (by omega) (by omega) (by omega) (by omega) (by omega)]; exact h4.1 c a
  · rw [e0 j (by omega)]; exact h4.2.1 j a
  · rw [e2]; exact h4.2.2.1 c a b
  · rw [e2]; exact h4.2.2.2 j a
/-! kinds by name -/
theorem find_z (hD : Dis B) (W : Int64) : ∃ z, (z = -1 ∧ ∀ i, 0 ≤ i → i < Bkn B → Bnm B i ≠ W) ∨ (0 ≤ z ∧ z < Bkn B ∧ Bnm B z = W ∧ ∀ i, 0 ≤ i → i < Bkn B → Bnm B i = W → i = z) := by
  by_cases h : ∃ i, 0 ≤ i ∧ i < Bkn B ∧ Bnm B i = W
  · obtain ⟨i, a, b, c⟩ := h
    exact ⟨i, Or.inr ⟨a, b, c, fun j d e f => hD j i d e a b (by rw [f, c])⟩⟩
  · exact ⟨-1, Or.inl ⟨rfl, fun i a b c => h ⟨i, a, b, c⟩⟩⟩
def IsK (B : BkT) (W : Int64) (z : Int) : Prop := (z = -1 ∧ ∀ i, 0 ≤ i → i < Bkn B → Bnm B i ≠ W) ∨ (0 ≤ z ∧ z < Bkn B ∧ Bnm B z = W ∧ ∀ i, 0 ≤ i → i < Bkn B → Bnm B i = W → i = z)
theorem c_find (hF : 10000 ≤ F) (hV : KdV B) (hC : KdC B (σ.1 15) (σ.2 16) (σ.1 17) (σ.1 18)) {W : Int64} {z : Int} (hz : IsK B W z) : f_X3_find F W σ = some (I z) := by
  have b0 := hV.1
  have b1 := hV.2.1
  have loop : ∀ (m : Nat) (v : Int), 0 ≤ v → v ≤ Bkn B → (0 ≤ z → v ≤ z) → Bkn B - v < m → f_X3_find_L2 F W σ m (I v) = some (I z) := by
    intro m
    induction m with
    | zero => intro v a b c d; omega
    | succ m ih =>
      intro v a b c d
      rw [f_X3_find_L2, hC.1]
      by_cases hv : v < Bkn B
      · have hn := hC.2.1 v a hv
        simp (maxSteps := 4000000) (disch := omega) only [I_lits, nz, nc, if_pos, if_neg, if_true, if_false, Option.bind_some, true_and, and_true, and_self, or_true, true_or, or_false, false_or, not_true_eq_false, not_false_eq_true, false_and, and_false, Bool.false_eq_true, decide_true, decide_false, eq_self, hn, lgI]
        by_cases e : Bnm B v = W
        · rw [if_pos e]
          rcases hz with h | h
          · exact absurd e (h.2 v a hv)
          · rw [h.2.2.2 v a hv e]
        · rw [if_neg e]
          refine ih (v + 1) (by omega) (by omega) (fun q => ?_) (by omega)
          rcases hz with h | h
          · omega
          · by_cases w : v = z
            · rw [w] at e; exact absurd h.2.2.1 e
            · have := c q; omega
      · simp (maxSteps := 4000000) (disch := omega) only [I_lits, nz, nc, if_pos, if_neg, if_true, if_false, Option.bind_some, true_and, and_true, and_self, or_true, true_or, or_false, false_or, not_true_eq_false, not_false_eq_true, false_and, and_false, Bool.false_eq_true, decide_true, decide_false, eq_self]
        rcases hz with h | h
        · rw [h.1]
        · have := c h.1; omega
  exact loop F 0 (by omega) (by omega) (fun q => q) (by omega)
theorem m_find (hF : 10000 ≤ F) (hV : KdV B) (hM : KdM B (τ.1 0 36) (τ.2 17) (τ.1 18) (τ.1 19) (τ.1 20)) {W : Int64} {z : Int} (hz : IsK B W z) : f_X12_kindNamed F W τ = some (I z) := by
  have b0 := hV.1
  have b1 := hV.2.1
  have loop : ∀ (m : Nat) (v : Int), 0 ≤ v → v ≤ Bkn B → Bkn B - v < m → f_X12_kindNamed_L5 F W τ m (I (if 0 ≤ z ∧ z < v then z else -1)) (I v) = some (I z) := by
    intro m
    induction m with
    | zero => intro v a b d; omega
    | succ m ih =>
      intro v a b d
      rw [f_X12_kindNamed_L5, hM.1]
      by_cases hv : v < Bkn B
      · have hn := hM.2.1 v a hv
        have ih' := ih (v + 1) (by omega) (by omega) (by omega)
        simp (maxSteps := 4000000) (disch := omega) only [I_lits, nz, nc, if_pos, if_neg, if_true, if_false, Option.bind_some, true_and, and_true, and_self, or_true, true_or, or_false, false_or, not_true_eq_false, not_false_eq_true, false_and, and_false, Bool.false_eq_true, decide_true, decide_false, eq_self, hn, lgI]
        by_cases e : Bnm B v = W
        · rw [if_pos e, Option.bind_some]
          rcases hz with h | h
          · exact absurd e (h.2 v a hv)
          · rw [← h.2.2.2 v a hv e, if_pos ⟨a, by omega⟩, h.2.2.2 v a hv e] at ih'
            rw [h.2.2.2 v a hv e]
            exact ih'
        · rw [if_neg e, Option.bind_some]
          have e2 : (if 0 ≤ z ∧ z < v + 1 then z else -1) = (if 0 ≤ z ∧ z < v then z else -1) := by
            rcases hz with h | h
            · rw [h.1, if_neg (by omega), if_neg (by omega)]
            · have : z ≠ v := fun w => e (by rw [← w]; exact h.2.2.1)
              by_cases q : 0 ≤ z ∧ z < v
              · rw [if_pos q, if_pos (by omega)]
              · rw [if_neg q, if_neg (by omega)]
          rw [e2] at ih'
          exact ih'
      · simp (maxSteps := 4000000) (disch := omega) only [I_lits, nz, nc, if_pos, if_neg, if_true, if_false, Option.bind_some, true_and, and_true, and_self, or_true, true_or, or_false, false_or, not_true_eq_false, not_false_eq_true, false_and, and_false, Bool.false_eq_true, decide_true, decide_false, eq_self]
        rcases hz with h | h
        · rw [h.1, if_neg (by omega)]
        · rw [if_pos (by omega)]
  unfold f_X12_kindNamed
  have := loop F 0 (by omega) (by omega) (by omega)
  rw [if_neg (by omega)] at this
  have t2 : f_X12_kindNamed_L5 F W τ F (-1 : Int32) (0 : Int32) = some (I z) := this
  rw [t2]; rfl
theorem c_ports (hV : KdV B) (hC : KdC B (σ.1 15) (σ.2 16) (σ.1 17) (σ.1 18)) {k : Int} (k0 : 0 ≤ k) (k1 : k < Bkn B) : f_X3_portsOf 15 (I k) σ = some (I (Bpt B k)) := by
  have b1 := hV.2.1
  unfold f_X3_portsOf
  rw [hC.1]
  simp (maxSteps := 4000000) (disch := omega) only [I_lits, nz, nc, if_pos, if_neg, if_true, if_false, Option.bind_some, true_and, and_true, and_self, or_true, true_or, or_false, false_or, not_true_eq_false, not_false_eq_true, false_and, and_false, Bool.false_eq_true, decide_true, decide_false, eq_self]
  rw [show 15 + 2 = 17 from rfl, hC.2.2.1 k k0 k1]
theorem rel_kc (E : EnvH F n ch K N B L σ0 τ0) (h : FrD σ0 σ) : KdC B (σ.1 15) (σ.2 16) (σ.1 17) (σ.1 18) := by
  rw [h.1 15 (by omega), h.2.2.2 16 (by omega) (by omega), h.1 17 (by omega), h.1 18 (by omega)]; exact E.2.2.2.2.2.1
theorem rel_km (E : EnvH F n ch K N B L σ0 τ0) (h : FrE τ0 τ) : KdM B (τ.1 0 36) (τ.2 17) (τ.1 18) (τ.1 19) (τ.1 20) := by
  rw [h.2.1 36 (by omega), h.2.2.1 17 (by omega) (by omega), h.1 18 (by omega), h.1 19 (by omega), h.1 20 (by omega)]; exact E.2.2.2.2.2.2.1
end REL
