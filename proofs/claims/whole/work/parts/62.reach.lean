/-! the walk from the ends -/
abbrev WkT : Type := (Int → Int) × (Int → Int) × Int
def Wo' (W : WkT) : Int → Int := W.1
def Wr (W : WkT) : Int → Int := W.2.1
def Ws (W : WkT) : Int := W.2.2
def WkI (N : NtT) (W : WkT) : Prop := 0 ≤ Ws W ∧ Ws W ≤ 400 ∧ (∀ i, 0 ≤ i → i < Ws W → 0 ≤ Wo' W i ∧ Wo' W i < 400 ∧ 0 ≤ Nk N (Wo' W i) ∧ Wr W (Wo' W i) = i) ∧ ∀ n, 0 ≤ n → n < 400 → -1 ≤ Wr W n ∧ Wr W n < Ws W ∧ (0 ≤ Wr W n → Wo' W (Wr W n) = n)
def WkC (W : WkT) (σ : St) (a : Nat) : Prop := σ.1 a 2 = I (Ws W) ∧ (∀ i, 0 ≤ i → i < Ws W → σ.1 (a + 1) i.toNat = I (Wo' W i)) ∧ ∀ n, 0 ≤ n → n < 400 → σ.1 (a + 2) n.toNat = I (Wr W n)
def WkM (W : WkT) (τ : St) (c : Int) : Prop := τ.1 51 c.toNat = I (Ws W) ∧ (∀ i, 0 ≤ i → i < Ws W → τ.1 49 (400 * c + i).toNat = I (Wo' W i)) ∧ ∀ n, 0 ≤ n → n < 400 → τ.1 50 (400 * c + n).toNat = I (Wr W n)
def Rkd (W : WkT) (x : Int) : Prop := x < 0 ∨ 0 ≤ Wr W (x / 5)
def Ext (W W' : WkT) : Prop := Ws W ≤ Ws W' ∧ (∀ n, 0 ≤ n → n < 400 → 0 ≤ Wr W n → Wr W' n = Wr W n) ∧ ∀ i, 0 ≤ i → i < Ws W → Wo' W' i = Wo' W i
theorem ext_rfl (W : WkT) : Ext W W := ⟨Int.le_refl _, fun _ _ _ _ => rfl, fun _ _ _ => rfl⟩
theorem ext_tr {W W' W'' : WkT} (h : Ext W W') (h' : Ext W' W'') : Ext W W'' := by
  refine ⟨Int.le_trans h.1 h'.1, fun n a b c => ?_, fun i a b => ?_⟩
  · have := h.2.1 n a b c
    rw [h'.2.1 n a b (by omega), this]
  · rw [h'.2.2 i a (by have := h.1; omega), h.2.2 i a b]
theorem ext_rk {W W' : WkT} (h : Ext W W') {x : Int} (hx : x < 2000) (r : Rkd W x) : Rkd W' x := by
  rcases r with q | q
  · exact Or.inl q
  · by_cases h0 : x < 0
    · exact Or.inl h0
    · right
      rw [h.2.1 _ (by omega) (by omega) q]; exact q
/-- what the reference reads of a net, current (0) or on a shelf (1) -/
def Acc (B : BkT) (N : NtT) (τ : St) (c s : Int) : Prop := (∀ n, 0 ≤ n → n < 400 → f_X12_agentOf (I c) (I s) (I n) τ = some (I (Nk N n))) ∧ (∀ x, NLiv B N x → 0 ≤ x → f_X12_wireOf (I c) (I s) (I x) τ = some (I (Nw N x))) ∧ ∀ x, NLiv B N x → x < 0 → f_X12_endTo (I c) (I s) (I (-2 - x)) τ = some (I (Nw N x))
/-- outside the walks nothing has changed -/
def FrC (σ σ' : St) (a : Nat) : Prop := σ'.2 = σ.2 ∧ ∀ k, k < a ∨ a + 2 < k → σ'.1 k = σ.1 k
def FrM (τ τ' : St) (c : Int) : Prop := τ'.2 = τ.2 ∧ (∀ k, k < 49 ∨ 51 < k → τ'.1 k = τ.1 k) ∧ (∀ j : Nat, (j < 400 * c ∨ 400 * c + 400 ≤ j) → τ'.1 49 j = τ.1 49 j ∧ τ'.1 50 j = τ.1 50 j) ∧ ∀ j : Nat, j ≠ c → τ'.1 51 j = τ.1 51 j
theorem frc_rfl (σ : St) (a : Nat) : FrC σ σ a := ⟨rfl, fun _ _ => rfl⟩
theorem frm_rfl (τ : St) (c : Int) : FrM τ τ c := ⟨rfl, fun _ _ => rfl, fun _ _ => ⟨rfl, rfl⟩, fun _ _ => rfl⟩
theorem frc_tr {σ σ' σ'' : St} {a : Nat} (h : FrC σ σ' a) (h' : FrC σ' σ'' a) : FrC σ σ'' a := ⟨by rw [h'.1, h.1], fun k hk => by rw [h'.2 k hk, h.2 k hk]⟩
theorem frm_tr {τ τ' τ'' : St} {c : Int} (h : FrM τ τ' c) (h' : FrM τ' τ'' c) : FrM τ τ'' c := ⟨by rw [h'.1, h.1], fun k hk => by rw [h'.2.1 k hk, h.2.1 k hk], fun j hj => ⟨by rw [(h'.2.2.1 j hj).1, (h.2.2.1 j hj).1], by rw [(h'.2.2.1 j hj).2, (h.2.2.1 j hj).2]⟩, fun j hj => by rw [h'.2.2.2 j hj, h.2.2.2 j hj]⟩
theorem acc_fr {B : BkT} {N : NtT} {τ τ' : St} {c s : Int} (h : Acc B N τ c s) (f : ∀ k, k < 49 → τ'.1 k = τ.1 k) : Acc B N τ' c s := by
  unfold Acc f_X12_agentOf f_X12_wireOf f_X12_endTo at h ⊢
  rw [f 12 (by omega), f 13 (by omega), f 14 (by omega), f 44 (by omega), f 45 (by omega), f 46 (by omega)]
  exact h
def Rp (N : NtT) (W : WkT) (σ0 τ0 σ τ : St) (a : Nat) (c : Int) : Prop := WkI N W ∧ WkC W σ a ∧ WkM W τ c ∧ FrC σ0 σ a ∧ FrM τ0 τ c
section RCH
variable {B : BkT} {N : NtT} {σ τ σ0 τ0 : St} {q : Int} {F : Nat} {a b : Nat} {c s : Int}
theorem I_agentOf {x : Int} (h0 : 0 ≤ x) (h1 : x < 2000) : f_X11_agentOf (I (to8 x)) = I (x / 5) := by
  unfold f_X11_agentOf
  rw [to8_p h0, I_shr3 (by omega) (by omega)]
  congr 1
  omega
theorem I_portOf {x : Int} (h0 : 0 ≤ x) (h1 : x < 2000) : f_X11_portOf (I (to8 x)) = I (x % 5) := by
  unfold f_X11_portOf
  rw [to8_p h0, I_and7 (by omega) (by omega)]
  congr 1
  omega
theorem s_meet (hV : NetV B N) (hc : c = 0 ∨ c = 1) {W : WkT} (h : Rp N W σ0 τ0 σ τ a c) {x : Int} (hL : NLiv B N x) : ∃ W' σ' τ', f_X10_reach a (I (to8 x)) σ = some σ' ∧ f_X12_meet (I c) (I x) τ = some τ' ∧ Rp N W' σ0 τ0 σ' τ' a c ∧ Ext W W' ∧ Rkd W' x := by
  obtain ⟨hI, hC, hM, fC, fM⟩ := h
  have hx := liv_r hV hL
  unfold f_X10_reach f_X12_meet f_X11_isInside
  by_cases hx0 : x < 0
  · rw [to8_n hx0]
    simp (maxSteps := 4000000) (disch := omega) only [I_lits, nz, nc, if_pos, if_neg, if_true, if_false, Option.bind_some, true_and, and_true, and_self, or_true, true_or, or_false, false_or, not_true_eq_false, not_false_eq_true, false_and, and_false, Bool.false_eq_true, decide_true, decide_false, eq_self, hx0]
    exact ⟨W, _, _, rfl, rfl, ⟨hI, hC, hM, fC, fM⟩, ext_rfl W, Or.inl hx0⟩
  · have hx1 : 0 ≤ x := by omega
    have hag := liv_ag hL hx1
    have h8 := to8_r hx.1 hx.2
    have h8' : ¬ to8 x < 0 := fun q => hx0 (to8_lt.mp q)
    have hrk := hI.2.2.2 (x / 5) (by omega) (by omega)
    have e1 := hC.2.2 (x / 5) (by omega) (by omega)
    have e2 := hM.2.2 (x / 5) (by omega) (by omega)
    have e3 := hC.1
    have e4 := hM.1
    have hs0 := hI.1
    have hs1 := hI.2.1
    rw [I_agentOf hx1 hx.2]
    by_cases hr : 0 ≤ Wr W (x / 5)
    · simp (maxSteps := 4000000) (disch := omega) only [I_lits, nz, nc, if_pos, if_neg, if_true, if_false, Option.bind_some, true_and, and_true, and_self, or_true, true_or, or_false, false_or, not_true_eq_false, not_false_eq_true, false_and, and_false, Bool.false_eq_true, decide_true, decide_false, eq_self, h8', hx1, e1, e2, hr]
      exact ⟨W, _, _, rfl, rfl, ⟨hI, hC, hM, fC, fM⟩, ext_rfl W, Or.inr hr⟩
    · have hsz : Ws W < 400 := by
        have := piglt (s := (Ws W).toNat) (n := 400) (g := fun i => Wo' W i) (m := x / 5) (fun i hi => by
          have := hI.2.2.1 i (by omega) (by omega)
          exact ⟨this.1, this.2.1, fun q => hr (by rw [← q, this.2.2.2]; omega)⟩) (fun i j hij hj e => by
          have h1 := hI.2.2.1 i (by omega) (by omega)
          have h2 := hI.2.2.1 j (by omega) (by omega)
          have : (Wo' W i) = Wo' W j := e
          rw [this, h2.2.2.2] at h1
          have := h1.2.2.2
          omega) (by omega) (by omega)
        omega
      have r1 : (seti σ (a + 2) (x / 5).toNat (I (Ws W))).1 a 2 = I (Ws W) := by rw [seti_r (by omega)]; exact e3
      have r2 : (seti (seti σ (a + 2) (x / 5).toNat (I (Ws W))) (a + 1) (Ws W).toNat (I (x / 5))).1 a 2 = I (Ws W) := by rw [seti_r (by omega)]; exact r1
      have m1 : (seti τ 50 (400 * c + x / 5).toNat (I (Ws W))).1 51 c.toNat = I (Ws W) := by rw [seti_r (by omega)]; exact e4
      have m2 : (seti (seti τ 50 (400 * c + x / 5).toNat (I (Ws W))) 49 (400 * c + Ws W).toNat (I (x / 5))).1 51 c.toNat = I (Ws W) := by rw [seti_r (by omega)]; exact m1
      simp (maxSteps := 4000000) (disch := omega) only [I_lits, nz, nc, if_pos, if_neg, if_true, if_false, Option.bind_some, true_and, and_true, and_self, or_true, true_or, or_false, false_or, not_true_eq_false, not_false_eq_true, false_and, and_false, Bool.false_eq_true, decide_true, decide_false, eq_self, h8', hx1, e1, e2, hr, e3, e4, r1, r2, m1, m2, show Wr W (x / 5) = -1 from by omega]
      refine ⟨(fun i => if i = Ws W then x / 5 else Wo' W i, fun n => if n = x / 5 then Ws W else Wr W n, Ws W + 1), _, _, rfl, rfl, ⟨⟨?_, ?_, ?_, ?_⟩, ⟨?_, ?_, ?_⟩, ⟨?_, ?_, ?_⟩, frc_tr fC ⟨rfl, ?_⟩, frm_tr fM ⟨rfl, ?_, ?_, ?_⟩⟩, ⟨?_, ?_, ?_⟩, Or.inr ?_⟩
      · show 0 ≤ Ws W + 1; omega
      · show Ws W + 1 ≤ 400; omega
      · intro i i0 i1
        have i1' : i < Ws W + 1 := i1
        show 0 ≤ (if i = Ws W then x / 5 else Wo' W i) ∧ (if i = Ws W then x / 5 else Wo' W i) < 400 ∧ 0 ≤ Nk N (if i = Ws W then x / 5 else Wo' W i) ∧ (if (if i = Ws W then x / 5 else Wo' W i) = x / 5 then Ws W else Wr W (if i = Ws W then x / 5 else Wo' W i)) = i
        by_cases e : i = Ws W
        · rw [if_pos e, if_pos rfl]
          exact ⟨by omega, by omega, hag.2.1, by omega⟩
        · have := hI.2.2.1 i i0 (by omega)
          rw [if_neg e, if_neg (fun q => hr (by rw [← q, this.2.2.2]; exact i0))]
          exact this
      · intro n n0 n1
        show -1 ≤ (if n = x / 5 then Ws W else Wr W n) ∧ (if n = x / 5 then Ws W else Wr W n) < Ws W + 1 ∧ (0 ≤ (if n = x / 5 then Ws W else Wr W n) → (if (if n = x / 5 then Ws W else Wr W n) = Ws W then x / 5 else Wo' W (if n = x / 5 then Ws W else Wr W n)) = n)
        by_cases e : n = x / 5
        · rw [if_pos e, if_pos rfl]
          exact ⟨by omega, by omega, fun _ => e.symm⟩
        · have := hI.2.2.2 n n0 n1
          rw [if_neg e, if_neg (by omega)]
          exact ⟨this.1, by omega, this.2.2⟩
      · rw [seti1, if_pos ⟨rfl, rfl⟩]; rfl
      · intro i i0 i1
        have i1' : i < Ws W + 1 := i1
        rw [seti_r (by omega), seti1, seti_r (by omega)]
        show _ = I (if i = Ws W then x / 5 else Wo' W i)
        by_cases e : i = Ws W
        · rw [if_pos (by rw [e]; exact ⟨rfl, rfl⟩), if_pos e]
        · rw [if_neg (by omega), if_neg e]
          exact hC.2.1 i i0 (by omega)
      · intro n n0 n1
        rw [seti_r (by omega), seti_r (by omega), seti1]
        show _ = I (if n = x / 5 then Ws W else Wr W n)
        by_cases e : n = x / 5
        · rw [if_pos (by rw [e]; exact ⟨rfl, rfl⟩), if_pos e]
        · rw [if_neg (by omega), if_neg e]
          exact hC.2.2 n n0 n1
      · rw [seti1, if_pos ⟨rfl, rfl⟩]; rfl
      · intro i i0 i1
        have i1' : i < Ws W + 1 := i1
        rw [seti_r (by omega), seti1, seti_r (by omega)]
        show _ = I (if i = Ws W then x / 5 else Wo' W i)
        by_cases e : i = Ws W
        · rw [if_pos (by rw [e]; exact ⟨rfl, rfl⟩), if_pos e]
        · rw [if_neg (by omega), if_neg e]
          exact hM.2.1 i i0 (by omega)
      · intro n n0 n1
        rw [seti_r (by omega), seti_r (by omega), seti1]
        show _ = I (if n = x / 5 then Ws W else Wr W n)
        by_cases e : n = x / 5
        · rw [if_pos (by rw [e]; exact ⟨rfl, rfl⟩), if_pos e]
        · rw [if_neg (by omega), if_neg e]
          exact hM.2.2 n n0 n1
      · intro k hk
        rw [seti_r (by omega), seti_r (by omega), seti_r (by omega)]
      · intro k hk
        rw [seti_r (by omega), seti_r (by omega), seti_r (by omega)]
      · intro j hj
        constructor
        · rw [seti_r (by omega), seti1, if_neg (by omega), seti_r (by omega)]
        · rw [seti_r (by omega), seti_r (by omega), seti1, if_neg (by omega)]
      · intro j hj
        rw [seti1, if_neg (by omega), seti_r (by omega), seti_r (by omega)]
      · show Ws W ≤ Ws W + 1; omega
      · intro n n0 n1 hn
        show (if n = x / 5 then Ws W else Wr W n) = Wr W n
        rw [if_neg (fun q => hr (by rw [← q]; exact hn))]
      · intro i i0 i1
        show (if i = Ws W then x / 5 else Wo' W i) = Wo' W i
        rw [if_neg (by omega)]
      · show 0 ≤ (if x / 5 = x / 5 then Ws W else Wr W (x / 5))
        rw [if_pos rfl]; exact hs0
theorem rp_net (hC : NtC B N σ0 b) (hab : b + 3 < a ∨ a + 2 < b) {W : WkT} (h : Rp N W σ0 τ0 σ τ a c) : NtC B N σ b := ntc_fr hC (fun k _ _ => h.2.2.2.1.2 k (by omega))
theorem s_go (hK : KdV B) (hV : NetV B N) (hC : NtC B N σ0 b) (hB : BkM B τ0) (hA : Acc B N τ0 c s) (hab : b + 3 < a ∨ a + 2 < b) (hc : c = 0 ∨ c = 1) {n : Int} (n0 : 0 ≤ n) (n1 : n < 400) (nk : 0 ≤ Nk N n) (x1 x2 x3 : Int32) : ∀ (f : Nat) (p : Int) (W : WkT) (σ τ : St), 0 ≤ p → p ≤ Bpt B (Nk N n) → Bpt B (Nk N n) - p < f → Rp N W σ0 τ0 σ τ a c → ∃ W' σ' τ', f_X10_goThrough_L14 F a b (I n) (I (Bpt B (Nk N n))) f (I p) σ = some σ' ∧ f_X12_reach_L109 F (I c) (I s) x1 x2 x3 (I n) f (I p) τ = some τ' ∧ Rp N W' σ0 τ0 σ' τ' a c ∧ Ext W W' ∧ ∀ p', p ≤ p' → p' < Bpt B (Nk N n) → Rkd W' (Nw N (5 * n + p')) := by
  intro f
  have kb := hV.2.2.1 n n0 n1
  have h16 := hK.2.1
  have pb := hK.2.2.1 _ nk kb.2
  induction f with
  | zero => intro p W σ τ h0 h1 h2; omega
  | succ f ih =>
    intro p W σ τ h0 h1 h2 hR
    have hA' := acc_fr hA (τ' := τ) (fun k hk => hR.2.2.2.2.2.1 k (by omega))
    have e3 : τ.1 3 (Nk N n).toNat = I (Bpt B (Nk N n)) := by
      rw [hR.2.2.2.2.2.1 3 (by omega)]
      exact hB.1.2.2.1 _ nk kb.2
    rw [f_X10_goThrough_L14, f_X12_reach_L109]
    by_cases hp : p = Bpt B (Nk N n)
    · subst hp
      simp (maxSteps := 4000000) (disch := omega) only [I_lits, nz, nc, if_pos, if_neg, if_true, if_false, Option.bind_some, true_and, and_true, and_self, or_true, true_or, or_false, false_or, not_true_eq_false, not_false_eq_true, false_and, and_false, Bool.false_eq_true, decide_true, decide_false, eq_self, hA'.1 n n0 n1, e3, Int.lt_irrefl]
      exact ⟨W, _, _, rfl, rfl, hR, ext_rfl W, fun p' a b => by omega⟩
    · have hL : NLiv B N (5 * n + p) := liv_port n0 n1 nk h0 (by omega) (by omega)
      have hw := c_wireOf hV (rp_net hC hab hR) hL
      rw [to8_p (by omega), show 8 * ((5 * n + p) / 5) + (5 * n + p) % 5 = 8 * n + p by omega] at hw
      have hLt := (hV.2.2.2 _ hL).1
      obtain ⟨W1, σ1, τ1, a1, a2, a3, a4, a5⟩ := s_meet hV hc hR hLt
      unfold f_X11_portCode
      simp (maxSteps := 4000000) (disch := omega) only [I_lits, nz, nc, if_pos, if_neg, if_true, if_false, Option.bind_some, true_and, and_true, and_self, or_true, true_or, or_false, false_or, not_true_eq_false, not_false_eq_true, false_and, and_false, Bool.false_eq_true, decide_true, decide_false, eq_self, hA'.1 n n0 n1, e3, hw, a1, a2, hA'.2.1 _ hL (by omega)]
      obtain ⟨W', σ', τ', b1, b2, b3, b4, b5⟩ := ih (p + 1) W1 σ1 τ1 (by omega) (by omega) (by omega) a3
      refine ⟨W', σ', τ', b1, b2, b3, ext_tr a4 b4, fun p' q1 q2 => ?_⟩
      by_cases e : p' = p
      · rw [e]
        exact ext_rk b4 (liv_r hV hLt).2 a5
      · exact b5 p' (by omega) q2
/-- everything that the agents below v lead to is reached -/
def Don (B : BkT) (N : NtT) (W : WkT) (v : Int) : Prop := ∀ i, 0 ≤ i → i < v → ∀ p, 0 ≤ p → p < Bpt B (Nk N (Wo' W i)) → Rkd W (Nw N (5 * Wo' W i + p))
theorem don_ext (hK : KdV B) (hV : NetV B N) {W W' : WkT} {v : Int} (hI : WkI N W) (hv : v ≤ Ws W) (e : Ext W W') (h : Don B N W v) : Don B N W' v := by
  intro i i0 i1 p p0 p1
  have ei := e.2.2 i i0 (by omega)
  rw [ei] at p1 ⊢
  have hi := hI.2.2.1 i i0 (by omega)
  have kb := hV.2.2.1 _ hi.1 hi.2.1
  have pb := hK.2.2.1 _ hi.2.2.1 kb.2
  have hL : NLiv B N (5 * Wo' W i + p) := liv_port hi.1 hi.2.1 hi.2.2.1 p0 p1 (by omega)
  exact ext_rk e (liv_r hV (hV.2.2.2 _ hL).1).2 (h i i0 i1 p p0 p1)
theorem s_queue (hK : KdV B) (hV : NetV B N) (hC : NtC B N σ0 b) (hBC : BkC B σ0 64) (hB : BkM B τ0) (hA : Acc B N τ0 c s) (hF : 10000 ≤ F) (hab : b + 3 < a ∨ a + 2 < b) (ha : a + 2 < 64) (hc : c = 0 ∨ c = 1) (y x1 x2 : Int32) : ∀ (f : Nat) (v : Int) (W : WkT) (σ τ : St), 0 ≤ v → v ≤ Ws W → 400 - v < f → Rp N W σ0 τ0 σ τ a c → Don B N W v → ∃ W' σ' τ', f_X10_reachAll_L40 F a b y f (I v) σ = some (I (Ws W'), σ') ∧ f_X12_reach_L79 F (I c) (I s) x1 x2 f (I v) τ = some (I (Ws W'), τ') ∧ Rp N W' σ0 τ0 σ' τ' a c ∧ Ext W W' ∧ Don B N W' (Ws W') := by
  intro f
  induction f with
  | zero =>
    intro v W σ τ h0 h1 h2 hR
    have := hR.1.2.1
    omega
  | succ f ih =>
    intro v W σ τ h0 h1 h2 hR hD
    have hs1 := hR.1.2.1
    have hs0 := hR.1.1
    rw [f_X10_reachAll_L40, f_X12_reach_L79, hR.2.1.1]
    have m1 : τ.1 51 c.toNat = I (Ws W) := hR.2.2.1.1
    by_cases hv : v = Ws W
    · subst hv
      simp (maxSteps := 4000000) (disch := omega) only [I_lits, nz, nc, if_pos, if_neg, if_true, if_false, Option.bind_some, true_and, and_true, and_self, or_true, true_or, or_false, false_or, not_true_eq_false, not_false_eq_true, false_and, and_false, Bool.false_eq_true, decide_true, decide_false, eq_self, m1, Int.lt_irrefl]
      exact ⟨W, _, _, rfl, rfl, hR, ext_rfl W, hD⟩
    · have hi := hR.1.2.2.1 v h0 (by omega)
      have e1 := hR.2.1.2.1 v h0 (by omega)
      have e2 := hR.2.2.1.2.1 v h0 (by omega)
      have kb := hV.2.2.1 _ hi.1 hi.2.1
      have h16 := hK.2.1
      have pb := hK.2.2.1 _ hi.2.2.1 kb.2
      have hNC := rp_net hC hab hR
      have hBC' : BkC B σ 64 := bkc_fr hBC (fun k _ _ => hR.2.2.2.1.2 k (by omega)) (by rw [hR.2.2.2.1.1])
      obtain ⟨W1, σ1, τ1, a1, a2, a3, a4, a5⟩ := s_go (F := F) hK hV hC hB hA hab hc hi.1 hi.2.1 hi.2.2.1 (I (v + 1)) x1 x2 F 0 W σ τ (by omega) (by omega) (by omega) hR
      have hgo : f_X10_goThrough F a b (I (Wo' W v)) σ = some σ1 := by
        unfold f_X10_goThrough
        rw [c_kindOf hNC (by omega) (by omega), if_pos ⟨hi.1, hi.2.1⟩, Option.bind_some, c_portsOf hBC' hK (by omega) (by omega), if_pos ⟨hi.2.2.1, kb.2⟩, Option.bind_some, show (0 : Int32) = I 0 from rfl, a1]
        rfl
      simp (maxSteps := 4000000) (disch := omega) only [I_lits, nz, nc, if_pos, if_neg, if_true, if_false, Option.bind_some, true_and, and_true, and_self, or_true, true_or, or_false, false_or, not_true_eq_false, not_false_eq_true, false_and, and_false, Bool.false_eq_true, decide_true, decide_false, eq_self, m1, e1, e2, hgo, a2]
      obtain ⟨W', σ', τ', b1, b2, b3, b4, b5⟩ := ih (v + 1) W1 σ1 τ1 (by omega) (by have := a4.1; omega) (by omega) a3 (by
        intro i i0 i1 p p0 p1
        by_cases e : i = v
        · subst e
          have ei := a4.2.2 i i0 (by omega)
          rw [ei] at p1 ⊢
          exact a5 p p0 p1
        · exact don_ext hK hV hR.1 h1 a4 hD i i0 (by omega) p p0 p1)
      exact ⟨W', σ', τ', b1, b2, b3, ext_tr a4 b4, b5⟩
end RCH
