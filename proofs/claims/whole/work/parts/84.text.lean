/-! texts: bytes and rows of letters -/
def TxC (n : Int) (ch : Int → Int) (σ : St) : Prop := σ.1 9 6 = I n ∧ ∀ i, 0 ≤ i → i < n → σ.1 10 i.toNat &&& (255 : Int32) = I (ch i)
def TxM (n : Int) (ch : Int → Int) (τ : St) : Prop := τ.1 0 1 = I n ∧ ∀ i, 0 ≤ i → i < n → τ.1 1 i.toNat = I (ch i)
def TxA (n : Int) (ch : Int → Int) : Prop := 0 ≤ n ∧ n ≤ 4000 ∧ (∀ i, 0 ≤ ch i ∧ ch i < 256) ∧ ∀ i, n ≤ i → ch i = 0
theorem tx_of {σ τ : St} (h : TpR σ τ) : ∃ n ch, TxA n ch ∧ TxC n ch σ ∧ TxM n ch τ := by
  obtain ⟨n, n0, n1, n2, n3, n4⟩ := h
  have hc : ∀ i : Int, ∃ c : Int, (0 ≤ c ∧ c < 256) ∧ (0 ≤ i → i < n → σ.1 10 i.toNat &&& (255 : Int32) = I c ∧ τ.1 1 i.toNat = I c) ∧ (n ≤ i → c = 0) := by
    intro i
    by_cases h : 0 ≤ i ∧ i < n
    · obtain ⟨c, c0, c1, c2, c3⟩ := n4 i h.1 h.2
      exact ⟨c, ⟨c0, c1⟩, fun _ _ => ⟨c2, c3⟩, fun q => by omega⟩
    · exact ⟨0, by omega, fun a b => absurd ⟨a, b⟩ h, fun _ => rfl⟩
  refine ⟨n, fun i => Classical.choose (hc i), ⟨n0, n1, fun i => (Classical.choose_spec (hc i)).1, fun i h => (Classical.choose_spec (hc i)).2.2 h⟩, ⟨n2, fun i a b => ((Classical.choose_spec (hc i)).2.1 a b).1⟩, n3, fun i a b => ((Classical.choose_spec (hc i)).2.1 a b).2⟩
def isS (c : Int) : Bool := decide (97 ≤ c ∧ c ≤ 122)
def isG (c : Int) : Bool := decide (65 ≤ c ∧ c ≤ 90)
def isD (c : Int) : Bool := decide (48 ≤ c ∧ c ≤ 57)
def isAl (c : Int) : Bool := isS c || isG c || isD c
/-- a row of r letters and digits from i on -/
def Row (ch : Int → Int) (i r : Int) : Prop := 0 ≤ r ∧ (∀ j, i ≤ j → j < i + r → isAl (ch j) = true) ∧ isAl (ch (i + r)) = false
def pkA (ch : Int → Int) : Nat → Int → Int64 → Int64
  | 0, _, w => w
  | m + 1, i, w => pkA ch m (i + 1) ((w <<< ((8 : Int32).toInt64 &&& 63)) ||| (I (ch i)).toInt64)
theorem pkA_suc (ch : Int → Int) : ∀ (m : Nat) (i : Int) (w : Int64), pkA ch (m + 1) i w = ((pkA ch m i w) <<< ((8 : Int32).toInt64 &&& 63)) ||| (I (ch (i + m))).toInt64
  | 0, i, w => by
    rw [pkA, pkA, pkA, show i + ((0 : Nat) : Int) = i by omega]
  | m + 1, i, w => by
    rw [pkA, pkA_suc ch m (i + 1)]
    conv => rhs; rw [pkA]
    rw [show i + 1 + (m : Int) = i + ((m + 1 : Nat) : Int) by omega]
/-- what a row is: 0 no token, 2 a name, 3 a big name -/
def tyA (ch : Int → Int) (i r : Int) : Int := if 8 < r then 0 else if isS (ch i) then (if allB (fun j => !(isG (ch j))) r.toNat i then 2 else 0) else if isG (ch i) then 3 else 0
section TXT
variable {n : Int} {ch : Int → Int} {σ τ : St} {F : Nat}
theorem isAl0 : isAl 0 = false := by decide
theorem isAl_m1 : isAl (-1) = false := by decide
theorem row_ex (hA : TxA n ch) {i : Int} (i0 : 0 ≤ i) : ∃ r, Row ch i r ∧ (i ≤ n → i + r ≤ n) := by
  have : ∀ (m : Nat) (i : Int), 0 ≤ i → n - i ≤ m → ∃ r, Row ch i r ∧ (i ≤ n → i + r ≤ n) := by
    intro m
    induction m with
    | zero =>
      intro i i0 h
      refine ⟨0, ⟨by omega, fun j a b => by omega, ?_⟩, fun h' => by omega⟩
      rw [hA.2.2.2 _ (by omega)]; exact isAl0
    | succ m ih =>
      intro i i0 h
      by_cases hl : isAl (ch i) = true
      · obtain ⟨r, ⟨r0, r1, r2⟩, r3⟩ := ih (i + 1) (by omega) (by omega)
        have hin : i < n := by
          by_cases q : i < n
          · exact q
          · rw [hA.2.2.2 i (by omega), isAl0] at hl; exact absurd hl (by decide)
        refine ⟨r + 1, ⟨by omega, fun j a b => ?_, by rw [show i + (r + 1) = i + 1 + r by omega]; exact r2⟩, fun _ => by have := r3 (by omega); omega⟩
        by_cases e : j = i
        · rw [e]; exact hl
        · exact r1 j (by omega) (by omega)
      · refine ⟨0, ⟨by omega, fun j a b => by omega, ?_⟩, fun h' => by omega⟩
        rw [Int.add_zero]
        exact Bool.eq_false_iff.mpr hl
  exact this (n - i).toNat i i0 (by omega)
theorem c_byteAt (hA : TxA n ch) (hC : TxC n ch σ) {i : Int} (i0 : 0 ≤ i) (i1 : i < 100000) : f_X9_byteAt (I i) σ = some (I (if i < n then ch i else -1)) := by
  have h0 := hA.1
  have h1 := hA.2.1
  unfold f_X9_byteAt f_X11_isInside
  rw [hC.1]
  by_cases h : i < n
  · have := hC.2 i i0 h
    simp (maxSteps := 4000000) (disch := omega) only [I_lits, nz, nc, if_pos, if_neg, if_true, if_false, Option.bind_some, true_and, and_true, and_self, or_true, true_or, or_false, false_or, not_true_eq_false, not_false_eq_true, false_and, and_false, Bool.false_eq_true, decide_true, decide_false, eq_self, i0, h, i01]
    rw [show I 255 = (255 : Int32) from rfl, this]
  · simp (maxSteps := 4000000) (disch := omega) only [I_lits, nz, nc, if_pos, if_neg, if_true, if_false, Option.bind_some, true_and, and_true, and_self, or_true, true_or, or_false, false_or, not_true_eq_false, not_false_eq_true, false_and, and_false, Bool.false_eq_true, decide_true, decide_false, eq_self, h]
theorem m_byteAt (hA : TxA n ch) (hM : TxM n ch τ) {i : Int} (i0 : 0 ≤ i) (i1 : i < 100000) : f_X12_byteAt (I i) τ = some (I (ch i)) := by
  have h0 := hA.1
  have h1 := hA.2.1
  unfold f_X12_byteAt
  rw [hM.1]
  by_cases h : i < n
  · have := hM.2 i i0 h
    simp (maxSteps := 4000000) (disch := omega) only [I_lits, nz, nc, if_pos, if_neg, if_true, if_false, Option.bind_some, true_and, and_true, and_self, or_true, true_or, or_false, false_or, not_true_eq_false, not_false_eq_true, false_and, and_false, Bool.false_eq_true, decide_true, decide_false, eq_self, h, this]
  · simp (maxSteps := 4000000) (disch := omega) only [I_lits, nz, nc, if_pos, if_neg, if_true, if_false, Option.bind_some, true_and, and_true, and_self, or_true, true_or, or_false, false_or, not_true_eq_false, not_false_eq_true, false_and, and_false, Bool.false_eq_true, decide_true, decide_false, eq_self, h]
    rw [hA.2.2.2 i (by omega)]
theorem c_isL {c : Int} (h0 : -1 ≤ c) (h1 : c < 256) : f_X9_isLetterOrDigit (I c) = if isAl c then 1 else 0 := by
  unfold f_X9_isLetterOrDigit f_X9_isBig f_X9_isDigit
  unfold isAl isS isG isD
  have e10 : ¬ (I 1 = I 0) := by decide
  simp (maxSteps := 4000000) (disch := omega) only [I_lits, nz, nc]
  by_cases a : 97 ≤ c ∧ c ≤ 122
  · rw [if_pos (by omega)]
    simp [a]
  · rw [if_neg (by omega)]
    by_cases b : 65 ≤ c ∧ c ≤ 90
    · simp [b, e10]
    · by_cases d : 48 ≤ c ∧ c ≤ 57
      · simp [a, b, d, e10]
      · simp [a, b, d]
theorem c_isBig {c : Int} (h0 : -1 ≤ c) (h1 : c < 256) : f_X9_isBig (I c) = if isG c then 1 else 0 := by
  unfold f_X9_isBig isG
  simp (maxSteps := 4000000) (disch := omega) only [I_lits, nz, nc]
  by_cases b : 65 ≤ c ∧ c ≤ 90
  · simp [b]
  · simp [b]
theorem c_isDigit {c : Int} (h0 : -1 ≤ c) (h1 : c < 256) : f_X9_isDigit (I c) = if isD c then 1 else 0 := by
  unfold f_X9_isDigit isD
  simp (maxSteps := 4000000) (disch := omega) only [I_lits, nz, nc]
  by_cases b : 48 ≤ c ∧ c ≤ 57
  · simp [b]
  · simp [b]
theorem m_isSmall {c : Int} (h0 : -1 ≤ c) (h1 : c < 256) : f_X12_isSmall (I c) = if isS c then 1 else 0 := by
  unfold f_X12_isSmall isS
  simp (maxSteps := 4000000) (disch := omega) only [I_lits, nz, nc]
  by_cases b : 97 ≤ c ∧ c ≤ 122
  · simp [b]
  · simp [b]
theorem m_isGreat {c : Int} (h0 : -1 ≤ c) (h1 : c < 256) : f_X12_isGreat (I c) = if isG c then 1 else 0 := by
  unfold f_X12_isGreat isG
  simp (maxSteps := 4000000) (disch := omega) only [I_lits, nz, nc]
  by_cases b : 65 ≤ c ∧ c ≤ 90
  · simp [b]
  · simp [b]
theorem m_isFigure {c : Int} (h0 : -1 ≤ c) (h1 : c < 256) : f_X12_isFigure (I c) = if isD c then 1 else 0 := by
  unfold f_X12_isFigure isD
  simp (maxSteps := 4000000) (disch := omega) only [I_lits, nz, nc]
  by_cases b : 48 ≤ c ∧ c ≤ 57
  · simp [b]
  · simp [b]
theorem c_countRow (hA : TxA n ch) (hC : TxC n ch σ) (hF : 10000 ≤ F) {i r : Int} (i0 : 0 ≤ i) (i1 : i ≤ n) (hR : Row ch i r) (hr : i + r ≤ n) : f_X9_countRow F (I i) σ = some (I r) := by
  have h1 := hA.2.1
  have hr0 := hR.1
  have loop : ∀ (m : Nat) (v : Int), 0 ≤ v → v ≤ r → r - v < m → f_X9_countRow_L2 F (I i) σ m (I v) = some (I r) := by
    intro m
    induction m with
    | zero => intro v a b c; omega
    | succ m ih =>
      intro v a b c
      rw [f_X9_countRow_L2, hC.1, I_add]
      have hb := hA.2.2.1 (i + v)
      by_cases hv : v = r
      · by_cases hn : i + v < n
        · rw [if_pos ((I_lt (by omega) (by omega) (by omega) (by omega)).mpr hn), c_byteAt hA hC (by omega) (by omega), if_pos hn, Option.bind_some, c_isL (by omega) (by omega), hv, hR.2.2, Option.bind_some, if_pos (by rfl)]
        · rw [if_neg (fun q => hn ((I_lt (by omega) (by omega) (by omega) (by omega)).mp q)), hv]
      · have hl := hR.2.1 (i + v) (by omega) (by omega)
        rw [if_pos ((I_lt (by omega) (by omega) (by omega) (by omega)).mpr (show i + v < n by omega)), c_byteAt hA hC (by omega) (by omega), if_pos (by omega), Option.bind_some, c_isL (by omega) (by omega), hl, Option.bind_some, if_neg (by decide), show (1 : Int32) = I 1 from rfl, I_add]
        exact ih (v + 1) (by omega) (by omega) (by omega)
  unfold f_X9_countRow
  rw [show (0 : Int32) = I 0 from rfl, loop F 0 (by omega) hr0 (by omega)]
  rfl
theorem c_pack (hA : TxA n ch) (hC : TxC n ch σ) (hF : 10000 ≤ F) {i r : Int} (i0 : 0 ≤ i) (r0 : 0 ≤ r) (hr : i + r ≤ n) : f_X9_packName F (I i) (I r) σ = some (pkA ch (if r < 8 then r else 8).toNat i 0) := by
  have h1 := hA.2.1
  have loop : ∀ (m : Nat) (v : Int) (w : Int64), 0 ≤ v → v ≤ (if r < 8 then r else 8) → 9 - v < m → f_X9_packName_L5 F (I i) (I r) σ m w (I v) = some (pkA ch ((if r < 8 then r else 8) - v).toNat (i + v) w) := by
    intro m
    induction m with
    | zero => intro v w a b c; split at b <;> omega
    | succ m ih =>
      intro v w a b c
      rw [f_X9_packName_L5]
      by_cases hv : v = (if r < 8 then r else 8)
      · rw [if_neg (fun q => by
          have q1 := (I_lt (by omega) (by split at b <;> omega) (by omega) (by omega)).mp q.1
          have q2 := (I_lt (b := 8) (by omega) (by split at b <;> omega) (by omega) (by omega)).mp q.2
          split at hv <;> omega), ← hv, Int.sub_self]
        rfl
      · have hlt : v < r ∧ v < 8 := by split at b <;> split at hv <;> omega
        rw [if_pos ⟨(I_lt (by omega) (by omega) (by omega) (by omega)).mpr hlt.1, (I_lt (b := 8) (by omega) (by omega) (by omega) (by omega)).mpr hlt.2⟩, I_add, c_byteAt hA hC (by omega) (by omega), if_pos (by omega), Option.bind_some, Option.bind_some, show (1 : Int32) = I 1 from rfl, I_add, ih (v + 1) _ (by omega) (by split at b <;> split at hv <;> split <;> omega) (by omega)]
        obtain ⟨k, hk⟩ : ∃ k, ((if r < 8 then r else 8) - v).toNat = k + 1 := ⟨((if r < 8 then r else 8) - v).toNat - 1, by split at b <;> split at hv <;> split <;> omega⟩
        rw [hk, pkA, show ((if r < 8 then r else 8) - (v + 1)).toNat = k by omega, show i + (v + 1) = i + v + 1 by omega]
  unfold f_X9_packName
  rw [show (0 : Int32) = I 0 from rfl, loop F 0 0 (by omega) (by split <;> omega) (by omega), Int.sub_zero, Int.add_zero]
  rfl
theorem c_kindOfRow (hA : TxA n ch) (hC : TxC n ch σ) (hF : 10000 ≤ F) {i r : Int} (i0 : 0 ≤ i) (r0 : 1 ≤ r) (hR : Row ch i r) (hr : i + r ≤ n) : f_X9_kindOfRow F (I i) (I r) σ = some (I (tyA ch i r)) := by
  have h1 := hA.2.1
  have hb := hA.2.2.1 i
  have hl := hR.2.1 i (by omega) (by omega)
  unfold f_X9_kindOfRow tyA
  rw [c_byteAt hA hC (by omega) (by omega), if_pos (by omega), Option.bind_some, c_isBig (by omega) (by omega), Option.bind_some]
  by_cases h8 : 8 < r
  · rw [if_neg (fun q => by
      have := (I_le (b := 8) (by omega) (by omega) (by omega) (by omega)).mp q
      omega), if_pos h8]
    rfl
  · have hr8 : I r ≤ (8 : Int32) := (I_le (b := 8) (by omega) (by omega) (by omega) (by omega)).mpr (by omega)
    rw [if_pos hr8, Option.bind_some, c_isDigit (by omega) (by omega), Option.bind_some, if_neg h8]
    by_cases hd : isD (ch i) = true
    · have hs : isS (ch i) = false := by
        unfold isD at hd; unfold isS
        rw [decide_eq_true_eq] at hd
        exact decide_eq_false (by omega)
      have hg : isG (ch i) = false := by
        unfold isD at hd; unfold isG
        rw [decide_eq_true_eq] at hd
        exact decide_eq_false (by omega)
      rw [hd, hs, hg, if_neg (by decide)]
      rfl
    · rw [Bool.eq_false_iff.mpr hd, if_pos (by decide)]
      by_cases hg : isG (ch i) = true
      · have hs : isS (ch i) = false := by
          unfold isG at hg; unfold isS
          rw [decide_eq_true_eq] at hg
          exact decide_eq_false (by omega)
        obtain ⟨F', hF'⟩ : ∃ F', F = F' + 1 := ⟨F - 1, by omega⟩
        rw [hg, hs]
        simp only [if_true, Bool.false_eq_true, if_false]
        conv => lhs; rw [hF']
        rw [f_X9_kindOfRow_L31, if_neg (fun q => absurd q.2 i01), if_neg i01]
        rfl
      · have hs : isS (ch i) = true := by
          unfold isAl at hl
          rw [Bool.eq_false_iff.mpr hd, Bool.eq_false_iff.mpr hg] at hl
          simpa using hl
        rw [Bool.eq_false_iff.mpr hg, hs]
        simp only [Bool.false_eq_true, if_false, if_true]
        have loop : ∀ (m : Nat) (v : Int), 1 ≤ v → v ≤ r → r - v < m → f_X9_kindOfRow_L31 F (I i) (I r) 0 σ (fun _ => some (2 : Int32)) m (I v) = some (I (if allB (fun j => !(isG (ch j))) (r - v).toNat (i + v) then 2 else 0)) := by
          intro m
          induction m with
          | zero => intro v a b c; omega
          | succ m ih =>
            intro v a b c
            rw [f_X9_kindOfRow_L31]
            by_cases hv : v = r
            · rw [if_neg (fun q => by rw [hv] at q; exact Int32.lt_irrefl q.1), hv, Int.sub_self]
              rfl
            · have hbv := hA.2.2.1 (i + v)
              rw [if_pos ⟨(I_lt (by omega) (by omega) (by omega) (by omega)).mpr (by omega), rfl⟩, I_add, c_byteAt hA hC (by omega) (by omega), if_pos (by omega), Option.bind_some, c_isBig (by omega) (by omega), Option.bind_some]
              obtain ⟨k, hk⟩ : ∃ k, (r - v).toNat = k + 1 := ⟨(r - v).toNat - 1, by omega⟩
              rw [hk, allB]
              by_cases hgv : isG (ch (i + v)) = true
              · rw [hgv, if_neg (by decide)]
                rfl
              · rw [Bool.eq_false_iff.mpr hgv, if_pos (by decide), show (1 : Int32) = I 1 from rfl, I_add, ih (v + 1) (by omega) (by omega) (by omega), show (r - (v + 1)).toNat = k by omega, show i + (v + 1) = i + v + 1 by omega]
                simp
        obtain ⟨k, hk⟩ : ∃ k, r.toNat = k + 1 := ⟨r.toNat - 1, by omega⟩
        have := loop F 1 (by omega) r0 (by omega)
        rw [show f_X9_kindOfRow_L31 F (I i) (I r) 0 σ (fun _ => some (2 : Int32)) F (1 : Int32) = _ from this]
        rw [hk, allB, Bool.eq_false_iff.mpr hg, show (r - 1).toNat = k by omega]
        simp
end TXT
