section RCH2
variable {B : BkT} {N : NtT} {σ τ σ0 τ0 : St} {q : Int} {F : Nat} {a b : Nat} {c s : Int}
theorem s_ends (hK : KdV B) (hV : NetV B N) (hC : NtC B N σ0 b) (hBC : BkC B σ0 64) (hB : BkM B τ0) (hA : Acc B N τ0 c s) (hF : 10000 ≤ F) (hab : b + 3 < a ∨ a + 2 < b) (ha : a + 2 < 64) (hc : c = 0 ∨ c = 1) : ∀ (f : Nat) (e : Int) (W : WkT) (σ τ : St), 0 ≤ e → e ≤ Ne N → Ne N - e < f → Rp N W σ0 τ0 σ τ a c → Don B N W (Ws W) → ∃ W' σ' τ', f_X10_reachAll_L18 F a b f (I (Ws W)) (I e) σ = some σ' ∧ f_X12_reach_L59 F (I c) (I s) (I (Ne N)) f (I (Ws W)) (I e) τ = some τ' ∧ Rp N W' σ0 τ0 σ' τ' a c ∧ Ext W W' ∧ Don B N W' (Ws W') ∧ ∀ e', e ≤ e' → e' < Ne N → Rkd W' (Nw N (-2 - e')) := by
  intro f
  have he8 := hV.2.1
  have he0 := hV.1
  induction f with
  | zero => intro e W σ τ h0 h1 h2; omega
  | succ f ih =>
    intro e W σ τ h0 h1 h2 hR hD
    have hNC := rp_net hC hab hR
    have hs1 := hR.1.2.1
    have hs0 := hR.1.1
    rw [f_X10_reachAll_L18, f_X12_reach_L59, hNC.2.2.2.2.1]
    by_cases hv : e = Ne N
    · have hlt : ¬ (I e < I (Ne N)) := by
        rw [hv]; exact Int32.lt_irrefl
      rw [if_neg hlt, if_neg hlt]
      exact ⟨W, σ, τ, rfl, rfl, hR, ext_rfl W, hD, fun e' q1 q2 => absurd q1 (by omega)⟩
    · have hA' := acc_fr hA (τ' := τ) (fun k hk => hR.2.2.2.2.2.1 k (by omega))
      have hL : NLiv B N (-2 - e) := Or.inl ⟨by omega, by omega⟩
      have hw := c_wireOf hV hNC hL
      rw [to8_n (by omega)] at hw
      have hm := hA'.2.2 _ hL (by omega)
      rw [show -2 - (-2 - e) = e by omega] at hm
      have hLt := (hV.2.2.2 _ hL).1
      obtain ⟨W1, σ1, τ1, a1, a2, a3, a4, a5⟩ := s_meet hV hc hR hLt
      obtain ⟨W2, σ2, τ2, b1, b2, b3, b4, b5⟩ := s_queue (F := F) hK hV hC hBC hB hA hF hab ha hc (I e) (I (Ne N)) (I e) F (Ws W) W1 σ1 τ1 hs0 a4.1 (by omega) a3 (don_ext hK hV hR.1 (Int.le_refl _) a4 hD)
      unfold f_X11_endCode
      simp (maxSteps := 4000000) (disch := omega) only [I_lits, nz, nc, if_pos, if_neg, if_true, if_false, Option.bind_some, true_and, and_true, and_self, or_true, true_or, or_false, false_or, not_true_eq_false, not_false_eq_true, false_and, and_false, Bool.false_eq_true, decide_true, decide_false, eq_self, hw, hm, a1, a2, b1, b2]
      obtain ⟨W', σ', τ', d1, d2, d3, d4, d5, d6⟩ := ih (e + 1) W2 σ2 τ2 (by omega) (by omega) (by omega) b3 b5
      refine ⟨W', σ', τ', d1, d2, d3, ext_tr a4 (ext_tr b4 d4), d5, fun e' q1 q2 => ?_⟩
      by_cases ee : e' = e
      · rw [ee]
        exact ext_rk (ext_tr b4 d4) (liv_r hV hLt).2 a5
      · exact d6 e' (by omega) q2
end RCH2
