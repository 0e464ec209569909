/-! the class' tokens -/
def isSg (c : Int) : Bool := c == 40 || c == 41 || c == 44 || c == 61 || c == 59 || c == 43 || c == 45 || c == 58
theorem sg256 : ∀ b : Fin 256, ((∃ k : Fin 8, sgn k.val = (I ((b.val : Nat) : Int)).toInt8.toInt32) ↔ isSg ((b.val : Nat) : Int) = true) ∧ ((I ((b.val : Nat) : Int)).toUInt32 % 65536).toInt32 = I ((b.val : Nat) : Int) := by decide +kernel
theorem c_indexOf {F : Nat} {g : St} (hF : 10000 ≤ F) {b : Int} (b0 : 0 ≤ b) (b1 : b < 256) : ∃ x, f_J0_indexOf_0f7a4 F (((I b).toUInt32 % 65536).toInt32) g = some (I x) ∧ -1 ≤ x ∧ x < 8 ∧ (0 ≤ x ↔ isSg b = true) := by
  have hb := sg256 ⟨b.toNat, by omega⟩
  have eb : (((⟨b.toNat, by omega⟩ : Fin 256).val : Nat) : Int) = b := by
    show ((b.toNat : Nat) : Int) = b
    omega
  rw [eb] at hb
  have loop : ∀ (c4 : Int32) (m j : Nat), j ≤ 8 → 8 - j < m → ∃ x, f_J1_indexOfChar_4cfef_L7 F (8 : Int32) c4 g m (I j) = some (I x) ∧ -1 ≤ x ∧ x < 8 ∧ (0 ≤ x ↔ ∃ k : Nat, j ≤ k ∧ k < 8 ∧ sgn k = c4) := by
    intro c4 m
    induction m with
    | zero => intro j a c; omega
    | succ m ih =>
      intro j a c
      rw [f_J1_indexOfChar_4cfef_L7]
      by_cases hj : j = 8
      · rw [if_neg (by rw [hj]; exact Int32.lt_irrefl)]
        exact ⟨-1, rfl, by omega, by omega, fun q => by omega, fun ⟨k, k1, k2, _⟩ => by omega⟩
      · have hin : inb (I (j : Int)) 8 = true := (I_inb (by omega) (by omega)).mpr ⟨by omega, by omega⟩
        have hix : ix (I (j : Int)) = j := by
          rw [show ix (I (j : Int)) = (j : Int).toNat from I_ix (by omega) (by omega)]
          omega
        have hlt : I (j : Int) < (8 : Int32) := (I_lt (b := 8) (by omega) (by omega) (by omega) (by omega)).mpr (by omega)
        rw [if_pos hlt, if_pos hin, hix]
        by_cases hs : sgn j = c4
        · rw [if_pos hs]
          exact ⟨j, rfl, by omega, by omega, fun _ => ⟨j, Nat.le_refl _, by omega, hs⟩, fun _ => by omega⟩
        · rw [if_neg hs, show (1 : Int32) = I 1 from rfl, I_suc]
          obtain ⟨x, x1, x2, x3, x4⟩ := ih (j + 1) (by omega) (by omega)
          refine ⟨x, x1, x2, x3, fun q => ?_, fun ⟨k, k1, k2, k3⟩ => x4.mpr ⟨k, ?_, k2, k3⟩⟩
          · obtain ⟨k, k1, k2, k3⟩ := x4.mp q
            exact ⟨k, by omega, k2, k3⟩
          · by_cases e : k = j
            · rw [e] at k3; exact absurd k3 hs
            · omega
  obtain ⟨x, x1, x2, x3, x4⟩ := loop ((I b).toInt8.toInt32) F 0 (by omega) (by omega)
  refine ⟨x, ?_, x2, x3, x4.trans ⟨fun ⟨k, _, k2, k3⟩ => hb.1.mp ⟨⟨k, k2⟩, k3⟩, fun q => ?_⟩⟩
  · rw [hb.2]
    unfold f_J0_indexOf_0f7a4 f_J0_indexOf_7cf53 f_J0_length_8abf5 f_J1_indexOf_4cfef f_J1_indexOfChar_4cfef f_J1_canEncode_9a6ad
    have e1 : f_J0_isLatin1_aae02 = 1 := by decide
    have e2 : f_J0_coder_7d493 = 0 := by decide
    have e3 : ((8 : Int32) >>> ((0 : Int32) &&& 31)) = 8 := by decide
    have e4 : f_J9_max_7cf53 (0 : Int32) (0 : Int32) = 0 := by decide
    have e5 : f_J9_min_7cf53 (8 : Int32) (8 : Int32) = 8 := by decide
    have c1 : (0 : Int32) ≤ I b ∧ I b ≤ (255 : Int32) := ⟨(I_le (a := 0) (by omega) (by omega) (by omega) (by omega)).mpr b0, (I_le (b := 255) (by omega) (by omega) (by omega) (by omega)).mpr (by omega)⟩
    have x1' : f_J1_indexOfChar_4cfef_L7 F (8 : Int32) ((I b).toInt8.toInt32) g F (0 : Int32) = some (I x) := x1
    have c2 : ¬ ((8 : Int32) ≤ 0) := by decide
    simp only [e1, e2, e3, e4, e5, Option.bind_some, if_pos c1, if_neg i01, if_neg c2, x1']
  · obtain ⟨k, hk⟩ := hb.1.mpr q
    exact ⟨k.val, by omega, k.isLt, hk⟩
/-- a token from S to E of type T, with name W -/
def Tok (ch : Int → Int) (S T : Int) (W : Int64) (E : Int) : Prop := ∃ r, Row ch S r ∧ ((1 ≤ r ∧ T = tyA ch S r ∧ W = pkA ch (if r < 8 then r else 8).toNat S 0 ∧ E = S + r) ∨ (r = 0 ∧ ch S = 62 ∧ ch (S + 1) = 60 ∧ T = 4 ∧ E = S + 2) ∨ (r = 0 ∧ ¬ (ch S = 62 ∧ ch (S + 1) = 60) ∧ ch S ≠ 10 ∧ ch S ≠ 32 ∧ T = (if isSg (ch S) then ch S else 0) ∧ E = S + 1))
def Blk (n : Int) (ch : Int → Int) (i j : Int) : Prop := i ≤ j ∧ ∀ l, i ≤ l → l < j → l < n ∧ (ch l = 10 ∨ ch l = 32)
abbrev TkT : Type := (Int → Int) × (Int → Int) × (Int → Int64) × (Int → Int)
def kT (K : TkT) : Int → Int := K.1
def kS (K : TkT) : Int → Int := K.2.1
def kW (K : TkT) : Int → Int64 := K.2.2.1
def kE (K : TkT) : Int → Int := K.2.2.2
/-- the first k tokens, up to the byte i -/
def Toks (n : Int) (ch : Int → Int) (K : TkT) (k i : Int) : Prop := 0 ≤ k ∧ k ≤ i ∧ i ≤ n ∧ (∀ j, 0 ≤ j → j < k → 0 ≤ kS K j ∧ kS K j < n ∧ kS K j < kE K j ∧ kE K j ≤ n ∧ Tok ch (kS K j) (kT K j) (kW K j) (kE K j)) ∧ (0 < k → Blk n ch 0 (kS K 0)) ∧ (∀ j, 0 ≤ j → j + 1 < k → Blk n ch (kE K j) (kS K (j + 1))) ∧ Blk n ch (if k = 0 then 0 else kE K (k - 1)) i
def TkC (K : TkT) (k : Int) (σ : St) : Prop := σ.1 9 4 = I k ∧ ∀ j, 0 ≤ j → j < k → σ.1 11 j.toNat = I (kT K j) ∧ σ.1 12 j.toNat = I (kS K j) ∧ σ.2 13 j.toNat = kW K j
/-- what scanning leaves alone -/
def FrS (σ g : St) : Prop := (∀ c, c ≠ 9 → c ≠ 11 → c ≠ 12 → g.1 c = σ.1 c) ∧ (∀ j, j ≠ 4 → g.1 9 j = σ.1 9 j) ∧ ∀ c, c ≠ 13 → g.2 c = σ.2 c
theorem frs_tr {σ g g' : St} (h : FrS σ g) (h' : FrS g g') : FrS σ g' := ⟨fun c a b d => by rw [h'.1 c a b d, h.1 c a b d], fun j a => by rw [h'.2.1 j a, h.2.1 j a], fun c a => by rw [h'.2.2 c a, h.2.2 c a]⟩
def addK (K : TkT) (k T S : Int) (W : Int64) (E : Int) : TkT := (fun j => if j = k then T else kT K j, fun j => if j = k then S else kS K j, fun j => if j = k then W else kW K j, fun j => if j = k then E else kE K j)
section SCN
variable {n : Int} {ch : Int → Int} {σ : St} {F : Nat} {K : TkT}
theorem c_addToken {k T S E : Int} {W : Int64} (hk : TkC K k σ) (k0 : 0 ≤ k) (k1 : k ≤ 4000) : ∃ g, f_X9_addToken (I T) (I S) W σ = some g ∧ FrS σ g ∧ TkC (addK K k T S W E) (k + 1) g := by
  unfold f_X9_addToken
  have e1 : (seti σ 11 k.toNat (I T)).1 9 4 = I k := by rw [seti_r (by omega)]; exact hk.1
  have e2 : (seti (seti σ 11 k.toNat (I T)) 12 k.toNat (I S)).1 9 4 = I k := by rw [seti_r (by omega)]; exact e1
  have e3 : (setl (seti (seti σ 11 k.toNat (I T)) 12 k.toNat (I S)) 13 k.toNat W).1 9 4 = I k := e2
  simp (maxSteps := 4000000) (disch := omega) only [I_lits, nz, nc, if_pos, if_neg, if_true, if_false, Option.bind_some, true_and, and_true, and_self, or_true, true_or, or_false, false_or, not_true_eq_false, not_false_eq_true, false_and, and_false, Bool.false_eq_true, decide_true, decide_false, eq_self, hk.1, e1, e2, e3]
  refine ⟨_, rfl, ⟨fun c a b d => ?_, fun j a => ?_, fun c a => ?_⟩, ?_, fun j a b => ?_⟩
  · rw [seti_r a, setl1, seti_r d, seti_r b]
  · rw [seti1, if_neg (by omega), setl1, seti_r (by omega), seti_r (by omega)]
  · rw [seti2, setl_r a]; rfl
  · rw [seti1, if_pos ⟨rfl, rfl⟩]
  · show _ = I (if j = k then T else kT K j) ∧ _ = I (if j = k then S else kS K j) ∧ _ = (if j = k then W else kW K j)
    rw [seti_r (by omega), seti_r (by omega), setl1, seti_r (show (11 : Nat) ≠ 12 by omega), seti1, seti1, seti_r (show (12 : Nat) ≠ 11 by omega), seti2, setl2]
    by_cases e : j = k
    · have h2 : j.toNat = k.toNat := by rw [e]
      simp only [h2, and_self, if_true, if_pos e]
    · have h2 : ¬ (j.toNat = k.toNat) := fun q => e (by omega)
      simp only [h2, and_false, if_false, if_neg e]
      exact hk.2 j a (by omega)
theorem toks_add {k i T E : Int} {W : Int64} (h : Toks n ch K k i) (hi : i < n) (hE : i < E) (hEn : E ≤ n) (ht : Tok ch i T W E) : Toks n ch (addK K k T i W E) (k + 1) E := by
  obtain ⟨h0, h1, h2, h3, h4, h5, h6⟩ := h
  refine ⟨by omega, by omega, hEn, fun j a b => ?_, fun _ => ?_, fun j a b => ?_, ?_⟩
  · show 0 ≤ (if j = k then i else kS K j) ∧ (if j = k then i else kS K j) < n ∧ (if j = k then i else kS K j) < (if j = k then E else kE K j) ∧ (if j = k then E else kE K j) ≤ n ∧ Tok ch (if j = k then i else kS K j) (if j = k then T else kT K j) (if j = k then W else kW K j) (if j = k then E else kE K j)
    by_cases e : j = k
    · simp only [e, if_true]
      exact ⟨by omega, hi, hE, hEn, ht⟩
    · simp only [e, if_false]
      exact h3 j a (by omega)
  · show Blk n ch 0 (if (0 : Int) = k then i else kS K 0)
    by_cases e : (0 : Int) = k
    · rw [if_pos e]
      rw [if_pos e.symm] at h6
      exact h6
    · rw [if_neg e]; exact h4 (by omega)
  · show Blk n ch (if j = k then E else kE K j) (if j + 1 = k then i else kS K (j + 1))
    rw [if_neg (by omega)]
    by_cases e : j + 1 = k
    · rw [if_pos e]
      rw [if_neg (by omega), show k - 1 = j by omega] at h6
      exact h6
    · rw [if_neg e]; exact h5 j a (by omega)
  · rw [if_neg (by omega), show k + 1 - 1 = k by omega]
    show Blk n ch (if k = k then E else kE K k) E
    rw [if_pos rfl]
    exact ⟨Int.le_refl _, fun l a b => by omega⟩
theorem c_scanAt (hA : TxA n ch) (hC : TxC n ch σ) (hF : 10000 ≤ F) {i k : Int} (i0 : 0 ≤ i) (hi : i < n) (hT : Toks n ch K k i) (hk : TkC K k σ) : ∃ g K' k' d, f_X9_scanAt F (I i) σ = some (I d, g) ∧ 1 ≤ d ∧ i + d ≤ n ∧ FrS σ g ∧ TkC K' k' g ∧ Toks n ch K' k' (i + d) := by
  have h1 := hA.2.1
  have hb := hA.2.2.1 i
  obtain ⟨r, hR, hr⟩ := row_ex hA i0
  have hr' := hr (by omega)
  have hr0 := hR.1
  obtain ⟨t0, t1, t2, t3, t4, t5, t6⟩ := id hT
  unfold f_X9_scanAt
  rw [c_byteAt hA hC i0 (by omega), if_pos hi, Option.bind_some, c_countRow hA hC hF i0 (by omega) hR hr', Option.bind_some]
  by_cases h0 : 1 ≤ r
  · have c1 : (0 : Int32) < I r := (I_lt (a := 0) (by omega) (by omega) (by omega) (by omega)).mpr (by omega)
    obtain ⟨g, a1, a2, a3⟩ := c_addToken (σ := σ) (T := tyA ch i r) (S := i) (E := i + r) (W := pkA ch (if r < 8 then r else 8).toNat i 0) hk t0 (by omega)
    rw [if_pos c1, c_kindOfRow hA hC hF i0 h0 hR hr', Option.bind_some, c_pack hA hC hF i0 hr0 hr', Option.bind_some, a1, Option.bind_some]
    exact ⟨g, _, k + 1, r, rfl, h0, hr', a2, a3, toks_add hT hi (by omega) hr' ⟨r, hR, Or.inl ⟨h0, rfl, rfl, rfl⟩⟩⟩
  · have er : r = 0 := by omega
    subst er
    have c1 : ¬ ((0 : Int32) < I 0) := by decide
    rw [if_neg c1, Option.bind_some]
    have rest : ¬ (ch i = 62 ∧ ch (i + 1) = 60) → ∃ g K' k' d, (if I (ch i) = (10 : Int32) ∨ I (ch i) = (32 : Int32) then some ((1 : Int32), σ) else Option.bind (f_J0_indexOf_0f7a4 F (((I (ch i)).toUInt32 % 65536).toInt32) σ) fun x10 => Option.bind (if (0 : Int32) ≤ x10 then some (I (ch i)) else some (0 : Int32)) fun t11 => Option.bind (f_X9_addToken t11 (I i) (0 : Int64) σ) fun s13 => some ((1 : Int32), s13)) = some (I d, g) ∧ 1 ≤ d ∧ i + d ≤ n ∧ FrS σ g ∧ TkC K' k' g ∧ Toks n ch K' k' (i + d) := by
      intro hm
      have q10 : (I (ch i) = (10 : Int32)) ↔ ch i = 10 := I_eq (b := 10) (by omega) (by omega) (by omega) (by omega)
      have q32 : (I (ch i) = (32 : Int32)) ↔ ch i = 32 := I_eq (b := 32) (by omega) (by omega) (by omega) (by omega)
      by_cases hbl : ch i = 10 ∨ ch i = 32
      · rw [if_pos (by
          rcases hbl with q | q
          · exact Or.inl (q10.mpr q)
          · exact Or.inr (q32.mpr q))]
        refine ⟨σ, K, k, 1, rfl, by omega, by omega, ⟨fun _ _ _ _ => rfl, fun _ _ => rfl, fun _ _ => rfl⟩, hk, ⟨t0, by omega, by omega, t3, t4, t5, ⟨by have := t6.1; omega, fun l a b => ?_⟩⟩⟩
        by_cases e : l = i
        · rw [e]; exact ⟨hi, hbl⟩
        · exact t6.2 l a (by omega)
      · have hbl' : ch i ≠ 10 ∧ ch i ≠ 32 := ⟨fun q => hbl (Or.inl q), fun q => hbl (Or.inr q)⟩
        rw [if_neg (fun q => by
          rcases q with q | q
          · exact hbl'.1 (q10.mp q)
          · exact hbl'.2 (q32.mp q))]
        obtain ⟨x, x1, x2, x3, x4⟩ := c_indexOf (F := F) (g := σ) hF hb.1 hb.2
        rw [x1, Option.bind_some]
        have et : (if (0 : Int32) ≤ I x then some (I (ch i)) else some (0 : Int32)) = some (I (if isSg (ch i) then ch i else 0)) := by
          by_cases hs : isSg (ch i) = true
          · have hz : (0 : Int32) ≤ I x := (I_le (a := 0) (by omega) (by omega) (by omega) (by omega)).mpr (x4.mpr hs)
            rw [if_pos hz, if_pos hs]
          · have hz : ¬ ((0 : Int32) ≤ I x) := fun q => hs (x4.mp ((I_le (a := 0) (by omega) (by omega) (by omega) (by omega)).mp q))
            rw [if_neg hz, if_neg hs]
            rfl
        obtain ⟨g, a1, a2, a3⟩ := c_addToken (σ := σ) (T := if isSg (ch i) then ch i else 0) (S := i) (E := i + 1) (W := 0) hk t0 (by omega)
        rw [et, Option.bind_some, a1, Option.bind_some]
        exact ⟨g, _, k + 1, 1, rfl, by omega, by omega, a2, a3, toks_add hT hi (by omega) (by omega) ⟨0, hR, Or.inr (Or.inr ⟨rfl, hm, hbl'.1, hbl'.2, rfl, rfl⟩)⟩⟩
    have q62 : (I (ch i) = (62 : Int32)) ↔ ch i = 62 := I_eq (b := 62) (by omega) (by omega) (by omega) (by omega)
    by_cases h62 : ch i = 62
    · have hb1 := hA.2.2.1 (i + 1)
      rw [if_pos (q62.mpr h62), show (1 : Int32) = I 1 from rfl, I_add, c_byteAt hA hC (by omega) (by omega), Option.bind_some]
      by_cases h60 : ch (i + 1) = 60
      · have hin : i + 1 < n := by
          by_cases q : i + 1 < n
          · exact q
          · have := hA.2.2.2 (i + 1) (by omega)
            omega
        rw [if_pos hin, h60, if_pos (by rfl)]
        obtain ⟨g, a1, a2, a3⟩ := c_addToken (σ := σ) (T := 4) (S := i) (E := i + 2) (W := 0) hk t0 (by omega)
        rw [show (4 : Int32) = I 4 from rfl, a1, Option.bind_some]
        exact ⟨g, _, k + 1, 2, rfl, by omega, by omega, a2, a3, toks_add hT hi (by omega) (by omega) ⟨0, hR, Or.inr (Or.inl ⟨rfl, h62, h60, rfl, rfl⟩)⟩⟩
      · have hne : ¬ (I (if i + 1 < n then ch (i + 1) else -1) = (60 : Int32)) := fun q => by
          have := (I_eq (b := 60) (by split <;> omega) (by split <;> omega) (by omega) (by omega)).mp q
          split at this <;> omega
        rw [if_neg hne]
        exact rest (fun q => h60 q.2)
    · rw [if_neg (fun q => h62 (q62.mp q))]
      exact rest (fun q => h62 q.1)
theorem c_scan_L (hA : TxA n ch) (hF : 10000 ≤ F) : ∀ (m : Nat) (i k : Int) (K : TkT) (g : St), 0 ≤ i → n - i < m → TxC n ch g → Toks n ch K k i → TkC K k g → ∃ g' K' k', f_X9_scan_L7 F m (I i) g = some g' ∧ FrS g g' ∧ TkC K' k' g' ∧ Toks n ch K' k' n := by
  have h1 := hA.2.1
  intro m
  induction m with
  | zero =>
    intro i k K g a b c d
    have := d.2.2.1
    omega
  | succ m ih =>
    intro i k K g a b c d e
    have hin := d.2.2.1
    rw [f_X9_scan_L7, c.1]
    by_cases hi : i = n
    · rw [if_neg (by rw [hi]; exact Int32.lt_irrefl)]
      rw [hi] at d
      exact ⟨g, K, k, rfl, ⟨fun _ _ _ _ => rfl, fun _ _ => rfl, fun _ _ => rfl⟩, e, d⟩
    · obtain ⟨g1, K1, k1, dd, a1, a2, a3, a4, a5, a6⟩ := c_scanAt (F := F) hA c hF a (by omega) d e
      have hlt : I i < I n := (I_lt (by omega) (by omega) (by omega) (by omega)).mpr (by omega)
      have emax : f_J9_max_7cf53 (I dd) (1 : Int32) = I dd := by
        unfold f_J9_max_7cf53
        have hz : (1 : Int32) ≤ I dd := (I_le (a := 1) (by omega) (by omega) (by omega) (by omega)).mpr a2
        rw [if_pos hz]
      have hC1 : TxC n ch g1 := ⟨by rw [a4.2.1 6 (by omega)]; exact c.1, fun j x y => by rw [a4.1 10 (by omega) (by omega) (by omega)]; exact c.2 j x y⟩
      obtain ⟨g', K', k', b1, b2, b3, b4⟩ := ih (i + dd) k1 K1 g1 (by omega) (by omega) hC1 a6 a5
      rw [if_pos hlt, a1, Option.bind_some, emax, Option.bind_some, I_add, Option.bind_some]
      exact ⟨g', K', k', b1, frs_tr a4 b2, b3, b4⟩
end SCN
