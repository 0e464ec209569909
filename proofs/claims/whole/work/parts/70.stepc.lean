/-! a step in the class -/
def sc (t : Int) : Int := 4 * ((t - 60) / 5) + (t - 60) % 5 - 1
def OutC (B : BkT) (N : NtT) (f s r : Int) (σ : St) : Prop := ∀ t, RLiv B r t → 60 ≤ t → σ.1 32 (sc t).toNat = I (to8 (Nw N (ps f s (t - 60)))) ∧ (Sn B N f s r t → σ.1 33 (sc t).toNat = I (sc (onn N f s t))) ∧ (¬ Sn B N f s r t → σ.1 33 (sc t).toNat = I (-1))
def PsC (B : BkT) (r : Int) (σ : St) (M : Int → Prop) : Prop := (∀ t, RLiv B r t → 60 ≤ t → (M t → σ.1 34 (sc t).toNat = I 1) ∧ (¬ M t → σ.1 34 (sc t).toNat = I 0)) ∧ ∀ v, 0 ≤ v → v < 8 → ¬ RLiv B r (61 + 5 * (v / 4) + v % 4) → σ.1 34 v.toNat = I 1
def NumC (B : BkT) (r : Int) (na : Int → Int) (σ : St) : Prop := ∀ i, 0 ≤ i → i < Bra B r → σ.1 35 i.toNat = I (na i)
def OnP (r o : Int → Int) (t : Int) (k : Nat) (z : Int) : Prop := ∃ j, j ≤ k ∧ (z = itr r o j t ∨ z = r (itr r o j t))
def OnL (r o : Int → Int) (t : Int) (k : Nat) (z : Int) : Prop := ∃ j, j < k ∧ (z = itr r o j t ∨ z = r (itr r o j t))
theorem psc_iff {B : BkT} {r : Int} {σ : St} {M M' : Int → Prop} (h : PsC B r σ M) (e : ∀ t, RLiv B r t → 60 ≤ t → (M t ↔ M' t)) : PsC B r σ M' :=
  ⟨fun t a b => ⟨fun q => (h.1 t a b).1 ((e t a b).mpr q), fun q => (h.1 t a b).2 (fun w => q ((e t a b).mp w))⟩, h.2⟩
theorem onl_suc {r o : Int → Int} {t : Int} {k : Nat} {z : Int} : OnL r o t (k + 1) z ↔ OnL r o t k z ∨ z = itr r o k t ∨ z = r (itr r o k t) := by
  constructor
  · rintro ⟨j, h1, h2⟩
    by_cases e : j = k
    · subst e; exact Or.inr h2
    · exact Or.inl ⟨j, by omega, h2⟩
  · rintro (⟨j, h1, h2⟩ | h)
    · exact ⟨j, by omega, h2⟩
    · exact ⟨k, by omega, h⟩
theorem onp_l {r o : Int → Int} {t : Int} {k : Nat} {z : Int} : OnP r o t k z ↔ OnL r o t (k + 1) z := by
  constructor
  · rintro ⟨j, h1, h2⟩; exact ⟨j, by omega, h2⟩
  · rintro ⟨j, h1, h2⟩; exact ⟨j, by omega, h2⟩
section STC
variable {B : BkT} {N : NtT} {f s r : Int} {na : Int → Int} {σ : St} {F : Nat}
theorem sc_b {t : Int} (h : SH B N f s r) (hR : RLiv B r t) (ht : 60 ≤ t) : 0 ≤ sc t ∧ sc t < 8 := by
  have := sl_b h hR ht
  unfold sc; omega
theorem sc_inj {t t' : Int} (h : SH B N f s r) (hR : RLiv B r t) (ht : 60 ≤ t) (hR' : RLiv B r t') (ht' : 60 ≤ t') (e : sc t = sc t') : t = t' := by
  have := sl_b h hR ht
  have := sl_b h hR' ht'
  unfold sc at e; omega
theorem sc_nd {t : Int} (h : SH B N f s r) (hR : RLiv B r t) (ht : 60 ≤ t) : 61 + 5 * (sc t / 4) + sc t % 4 = t := by
  have := sl_b h hR ht
  unfold sc; omega
theorem encR_s {t : Int} (ht : 60 ≤ t) : encR t = -2 - sc t := by
  unfold encR sc
  rw [if_neg (by omega)]
theorem encR_p {t : Int} (ht : t < 60) : encR t = 8 * (t / 5) + t % 5 := if_pos ht
theorem rt_l (h : SH B N f s r) {t : Int} (hR : RLiv B r t) : RLiv B r (Brt B r t) := ((st_ph h).1 t hR).1
theorem rl_r (h : SH B N f s r) {t : Int} (hR : RLiv B r t) : 0 ≤ t ∧ t < 70 := by
  rcases hR with q | q <;> omega
theorem encR_r (h : SH B N f s r) {t : Int} (hR : RLiv B r t) : -9 ≤ encR t ∧ encR t < 96 ∧ (0 ≤ encR t ↔ t < 60) := by
  have hb := rl_r h hR
  by_cases ht : t < 60
  · rw [encR_p ht]; omega
  · have := sc_b h hR (by omega)
    rw [encR_s (by omega)]; omega
theorem c_rwire (h : SH B N f s r) (hB : BkC B σ 64) {t : Int} (hR : RLiv B r t) : f_X8_wireOf (I r) (I (encR t)) σ = some (I (encR (Brt B r t))) := by
  have hr0 := h.2.2.2.2.1
  have hr1 := h.2.2.2.2.2.1
  have hrn := h.1.2.1.2.1
  have hb := encR_r h hR
  unfold f_X8_wireOf f_X8_has f_X11_isInside f_X11_endOf
  rw [hB.2.1]
  by_cases ht : t < 60
  · have he := hB.2.2.2.2.2.1 r t hr0 hr1 hR ht
    have h0 := hb.2.2.mpr ht
    rw [encR_p ht] at hb h0 ⊢
    simp (maxSteps := 4000000) (disch := omega) only [I_lits, nz, nc, if_pos, if_neg, if_true, if_false, Option.bind_some, true_and, and_true, and_self, or_true, true_or, or_false, false_or, not_true_eq_false, not_false_eq_true, false_and, and_false, Bool.false_eq_true, decide_true, decide_false, eq_self, i01]
    rw [show r * 96 + (8 * (t / 5) + t % 5) = 96 * r + (8 * (t / 5) + t % 5) by omega, he]
  · have he := hB.2.2.2.2.2.2 r t hr0 hr1 hR (by omega)
    have hs := sc_b h hR (by omega)
    rw [encR_s (by omega)]
    simp (maxSteps := 4000000) (disch := omega) only [I_lits, nz, nc, if_pos, if_neg, if_true, if_false, Option.bind_some, true_and, and_true, and_self, or_true, true_or, or_false, false_or, not_true_eq_false, not_false_eq_true, false_and, and_false, Bool.false_eq_true, decide_true, decide_false, eq_self, i01]
    have e2 : (r * 8 + (-2 - (-2 - sc t))).toNat = (8 * r + (4 * ((t - 60) / 5) + (t - 60) % 5 - 1)).toNat := by
      unfold sc; congr 1; omega
    rw [e2, he]
/-- passing a place -/
theorem c_pass (h : SH B N f s r) {M : Int → Prop} {g : St} (hM : PsC B r g M) {t : Int} (hR : RLiv B r t) : ∃ g', f_X7_pass (I (encR t)) g = some g' ∧ g'.2 = g.2 ∧ (∀ k, k ≠ 34 → g'.1 k = g.1 k) ∧ PsC B r g' (fun z => M z ∨ z = t) := by
  unfold f_X7_pass f_X11_endOf
  have hb := encR_r h hR
  by_cases ht : t < 60
  · have h0 := hb.2.2.mpr ht
    simp (maxSteps := 4000000) (disch := omega) only [I_lits, nz, nc, if_pos, if_neg, if_true, if_false, Option.bind_some, true_and, and_true, and_self, or_true, true_or, or_false, false_or, not_true_eq_false, not_false_eq_true, false_and, and_false, Bool.false_eq_true, decide_true, decide_false, eq_self]
    refine ⟨g, rfl, rfl, fun _ _ => rfl, psc_iff hM (fun z hz h6 => ⟨Or.inl, fun q => ?_⟩)⟩
    rcases q with q | q
    · exact q
    · omega
  · have hs := sc_b h hR (by omega)
    rw [encR_s (by omega)]
    simp (maxSteps := 4000000) (disch := omega) only [I_lits, nz, nc, if_pos, if_neg, if_true, if_false, Option.bind_some, true_and, and_true, and_self, or_true, true_or, or_false, false_or, not_true_eq_false, not_false_eq_true, false_and, and_false, Bool.false_eq_true, decide_true, decide_false, eq_self]
    rw [show -2 - (-2 - sc t) = sc t by omega]
    refine ⟨_, rfl, rfl, fun k hk => seti_r hk, fun z hz h6 => ⟨fun q => ?_, fun q => ?_⟩, fun v v0 v1 hv => ?_⟩
    · rw [seti1]
      by_cases e : (sc z).toNat = (sc t).toNat
      · rw [if_pos ⟨rfl, e⟩]
      · rw [if_neg (fun w => e w.2)]
        rcases q with q | q
        · exact (hM.1 z hz h6).1 q
        · rw [q] at e; exact absurd rfl e
    · have hzb := sc_b h hz h6
      rw [seti1, if_neg (fun w => q (Or.inr (sc_inj h hz h6 hR (by omega) (by omega))))]
      exact (hM.1 z hz h6).2 (fun w => q (Or.inl w))
    · rw [seti1, if_neg (fun w => hv (by
        have e : v = sc t := by omega
        rw [e, sc_nd h hR (by omega)]; exact hR))]
      exact hM.2 v v0 v1 hv
def fo0 : Int32 × St → Option (Int32 × St) := fun t19 => if inb t19.1 8 then (some (t19.2.1 (32) (ix t19.1), t19.2)) else none
def fo1 : Int32 × St → Option (Int32 × St) := fun t21 => Option.bind (f_X7_codeInNet t21.1 t21.2) fun x22 => some (x22, t21.2)
/-- one turn: it ends at a new agent -/
theorem c_fo_p (h : SH B N f s r) {x u : Int} {n j : Nat} {g g1 : St} (hj : j ≤ 8) (a1 : f_X7_pass (I (encR x)) g = some g1) (hrw : f_X8_wireOf (I r) (I (encR x)) g1 = some (I (encR u))) (hD2 : RLiv B r u) (hu6 : u < 60) (hna : NaH B N f s r na) (hnum : g1.1 35 (u / 5).toNat = I (na (u / 5))) : f_X7_follow_L6 F (I r) fo0 fo1 (n + 1) (I (encR x)) (I j) g = some (I (8 * na (u / 5) + u % 5), g1) := by
  have hr0 := h.2.2.2.2.1
  have hr1 := h.2.2.2.2.2.1
  have hbb := encR_r h hD2
  have h0 := hbb.2.2.mpr hu6
  have hp := pt_b h hD2 hu6
  have hnb := hna.1 (u / 5) (by omega) hp.2.1
  have hra := h.1.2.1.2.2.2.1 r hr0 hr1
  have ecode : f_X7_codeInNet (I (encR u)) g1 = some (I (8 * na (u / 5) + u % 5)) := by
    unfold f_X7_codeInNet
    have e8 : encR u = to8 u := by rw [encR_p hu6, to8_p (by omega)]
    rw [e8, I_agentOf (by omega) (by omega), I_portOf (by omega) (by omega)]
    unfold f_X11_portCode
    simp (maxSteps := 4000000) (disch := omega) only [I_lits, nz, nc, if_pos, if_neg, if_true, if_false, Option.bind_some, true_and, and_true, and_self, or_true, true_or, or_false, false_or, not_true_eq_false, not_false_eq_true, false_and, and_false, Bool.false_eq_true, decide_true, decide_false, eq_self, hnum]
  have hj8 : I (j : Int) ≤ (8 : Int32) := (I_le (b := 8) (by omega) (by omega) (by omega) (by omega)).mpr (by omega)
  have h00 : (0 : Int32) ≤ I (encR u) := (I_le (a := 0) (by omega) (by omega) (by omega) (by omega)).mpr h0
  rw [f_X7_follow_L6, if_pos hj8, a1, Option.bind_some, hrw, Option.bind_some, if_pos h00]
  unfold fo1
  rw [ecode, Option.bind_some]
/-- one turn: it comes to a slot -/
theorem c_fo_s (h : SH B N f s r) {x u : Int} {n j : Nat} {g g1 g2 : St} {v : Int} (hj : j ≤ 8) (a1 : f_X7_pass (I (encR x)) g = some g1) (hrw : f_X8_wireOf (I r) (I (encR x)) g1 = some (I (encR u))) (b1 : f_X7_pass (I (encR u)) g1 = some g2) (hD2 : RLiv B r u) (hu6 : 60 ≤ u) (hv : g2.1 33 (sc u).toNat = I v) (v0 : -1 ≤ v) (v1 : v < 8) : f_X7_follow_L6 F (I r) fo0 fo1 (n + 1) (I (encR x)) (I j) g = if v = -1 then some (g2.1 32 (sc u).toNat, g2) else f_X7_follow_L6 F (I r) fo0 fo1 n (I (-2 - v)) (I (j + 1 : Nat)) g2 := by
  have hbb := encR_r h hD2
  have hs := sc_b h hD2 hu6
  have esc : -2 - encR u = sc u := by rw [encR_s hu6]; omega
  have hneg : ¬ ((0 : Int32) ≤ I (encR u)) := by
    rw [show (0 : Int32) = I 0 from rfl, I_le (by omega) (by omega) (by omega) (by omega)]
    omega
  have hin : inb (I (sc u)) 8 = true := (I_inb (by omega) (by omega)).mpr ⟨hs.1, hs.2⟩
  have hix : ix (I (sc u)) = (sc u).toNat := I_ix (by omega) (by omega)
  have e8 : f_X11_endOf (I (encR u)) = I (sc u) := by
    unfold f_X11_endOf
    rw [show (-2 : Int32) = I (-2) from rfl, I_sub, esc]
  have hj8 : I (j : Int) ≤ (8 : Int32) := (I_le (b := 8) (by omega) (by omega) (by omega) (by omega)).mpr (by omega)
  have hcond : ((0 : Int32) ≤ I (sc u)) ∧ ¬ ((8 : Int32) ≤ I (sc u)) := by
    rw [show (0 : Int32) = I 0 from rfl, show (8 : Int32) = I 8 from rfl, I_le (by omega) (by omega) (by omega) (by omega), I_le (by omega) (by omega) (by omega) (by omega)]
    omega
  rw [f_X7_follow_L6, if_pos hj8, a1, Option.bind_some, hrw, Option.bind_some, if_neg hneg, b1, Option.bind_some, e8, Option.bind_some, if_pos hcond, if_pos hin, hix, hv]
  by_cases hv1 : v = -1
  · rw [if_pos hv1, hv1, if_pos (by rfl)]
    unfold fo0
    rw [if_pos hin, hix]
  · have hv2 : ¬ (I v = (-1 : Int32)) := fun q => hv1 ((I_eq (by omega) (by omega) (by omega) (by omega)).mp (show I v = I (-1) from q))
    rw [if_neg hv1, if_neg hv2, if_pos hin, Option.bind_some]
    unfold f_X11_endCode
    rw [show (-2 : Int32) = I (-2) from rfl, I_sub, show (1 : Int32) = I 1 from rfl, I_suc]
/-- following a wire to its end -/
theorem c_follow_L (h : SH B N f s r) (hB : BkC B σ 64) (hO : OutC B N f s r σ) (hN : NumC B r na σ) (hna : NaH B N f s r na) {t y : Int} {k : Nat} (hk8 : k ≤ 8) (ht : Tm B N f s r t) (hw : Way (Brt B r) (onn N f s) (Sn B N f s r) t k y) : ∀ (n j : Nat) (M : Int → Prop) (g : St), j ≤ k → 9 - j < n → g.2 = σ.2 → (∀ c, c ≠ 34 → g.1 c = σ.1 c) → PsC B r g (fun z => M z ∨ OnL (Brt B r) (onn N f s) t j z) → ∃ g', f_X7_follow_L6 F (I r) fo0 fo1 n (I (encR (itr (Brt B r) (onn N f s) j t))) (I j) g = some (I (to8 (Et N f s na y)), g') ∧ g'.2 = σ.2 ∧ (∀ c, c ≠ 34 → g'.1 c = σ.1 c) ∧ PsC B r g' (fun z => M z ∨ OnP (Brt B r) (onn N f s) t k z) := by
  intro n
  induction n with
  | zero => intro j M g h1 h2; omega
  | succ n ih =>
    intro j M g h1 h2 h3 h4 h5
    have hph := st_ph h
    have hD := itr_D hph ht.1 j (fun l hl => hw.1 l (by omega))
    have hD2 := rt_l h hD
    obtain ⟨g1, a1, a2, a3, a4⟩ := c_pass h h5 hD
    obtain ⟨g2, b1, b2, b3, b4⟩ := c_pass h a4 hD2
    have hB1 : BkC B g1 64 := bkc_fr hB (fun c _ _ => by rw [a3 c (by omega), h4 c (by omega)]) (by rw [a2, h3])
    have hrw := c_rwire h hB1 hD
    have psL : PsC B r g2 (fun z => M z ∨ OnL (Brt B r) (onn N f s) t (j + 1) z) := psc_iff b4 (fun z hz h6 => by
      rw [onl_suc]
      constructor
      · rintro (((q | q) | q) | q)
        · exact Or.inl q
        · exact Or.inr (Or.inl q)
        · exact Or.inr (Or.inr (Or.inl q))
        · exact Or.inr (Or.inr (Or.inr q))
      · rintro (q | q | q | q)
        · exact Or.inl (Or.inl (Or.inl q))
        · exact Or.inl (Or.inl (Or.inr q))
        · exact Or.inl (Or.inr q)
        · exact Or.inr q)
    by_cases hu6 : Brt B r (itr (Brt B r) (onn N f s) j t) < 60
    · have hk : k = j := by
        rcases Nat.lt_or_ge j k with q | q
        · have := (hw.1 j q).2.1
          omega
        · omega
      have hy : y = Brt B r (itr (Brt B r) (onn N f s) j t) := by rw [← hw.2.2, hk]
      have hp := pt_b h hD2 hu6
      have hnb := hna.1 _ (by omega) hp.2.1
      have hnum : g1.1 35 (Brt B r (itr (Brt B r) (onn N f s) j t) / 5).toNat = I (na (Brt B r (itr (Brt B r) (onn N f s) j t) / 5)) := by
        rw [a3 35 (by omega), h4 35 (by omega)]; exact hN _ (by omega) hp.2.1
      have hEt : to8 (Et N f s na y) = 8 * na (Brt B r (itr (Brt B r) (onn N f s) j t) / 5) + Brt B r (itr (Brt B r) (onn N f s) j t) % 5 := by
        rw [hy]
        unfold Et
        rw [if_pos hu6, to8_p (by omega)]
        omega
      rw [c_fo_p h (by omega) a1 hrw hD2 hu6 hna hnum, hEt]
      refine ⟨g1, rfl, by rw [a2, h3], fun c hc => by rw [a3 c hc, h4 c hc], psc_iff a4 (fun z hz h6 => ?_)⟩
      rw [onp_l, hk, onl_suc]
      constructor
      · rintro ((q | q) | q)
        · exact Or.inl q
        · exact Or.inr (Or.inl q)
        · exact Or.inr (Or.inr (Or.inl q))
      · rintro (q | q | q | q)
        · exact Or.inl (Or.inl q)
        · exact Or.inl (Or.inr q)
        · exact Or.inr q
        · omega
    · have hu6' : 60 ≤ Brt B r (itr (Brt B r) (onn N f s) j t) := by omega
      have hOu := hO _ hD2 hu6'
      have e33 : g2.1 33 = σ.1 33 := by rw [b3 33 (by omega), a3 33 (by omega), h4 33 (by omega)]
      have o32 : g2.1 32 (sc (Brt B r (itr (Brt B r) (onn N f s) j t))).toNat = I (to8 (Nw N (ps f s (Brt B r (itr (Brt B r) (onn N f s) j t) - 60)))) := by rw [b3 32 (by omega), a3 32 (by omega), h4 32 (by omega)]; exact hOu.1
      by_cases hS : Sn B N f s r (Brt B r (itr (Brt B r) (onn N f s) j t))
      · have hjk : j < k := by
          rcases Nat.lt_or_ge j k with q | q
          · exact q
          · exfalso
            have e : j = k := by omega
            have := hw.2.1
            rw [← hw.2.2, ← e] at this
            exact this hS
        have hos := os_b h hS
        have hsc2 := sc_b h hos.1 hos.2.1
        have o33 : g2.1 33 (sc (Brt B r (itr (Brt B r) (onn N f s) j t))).toNat = I (sc (onn N f s (Brt B r (itr (Brt B r) (onn N f s) j t)))) := by rw [e33]; exact hOu.2.1 hS
        rw [c_fo_s h (by omega) a1 hrw b1 hD2 hu6' o33 (by omega) (by omega), if_neg (by omega)]
        obtain ⟨g', e1, e2⟩ := ih (j + 1) M g2 (by omega) (by omega) (by rw [b2, a2, h3]) (fun c hc => by rw [b3 c hc, a3 c hc, h4 c hc]) psL
        rw [itr, encR_s hos.2.1] at e1
        exact ⟨g', e1, e2⟩
      · have hk : k = j := by
          rcases Nat.lt_or_ge j k with q | q
          · exact absurd (hw.1 j q) hS
          · omega
        have hy : y = Brt B r (itr (Brt B r) (onn N f s) j t) := by rw [← hw.2.2, hk]
        have o33 : g2.1 33 (sc (Brt B r (itr (Brt B r) (onn N f s) j t))).toNat = I (-1) := by rw [e33]; exact hOu.2.2 hS
        have hEt : Et N f s na y = Nw N (ps f s (Brt B r (itr (Brt B r) (onn N f s) j t) - 60)) := by
          rw [hy]
          unfold Et
          rw [if_neg hu6]
        rw [c_fo_s h (by omega) a1 hrw b1 hD2 hu6' o33 (by omega) (by omega), if_pos rfl, o32, hEt]
        refine ⟨g2, rfl, by rw [b2, a2, h3], fun c hc => by rw [b3 c hc, a3 c hc, h4 c hc], psc_iff psL (fun z hz h6 => ?_)⟩
        rw [onp_l, hk]
theorem c_follow (h : SH B N f s r) (hF : 10000 ≤ F) (hB : BkC B σ 64) (hO : OutC B N f s r σ) (hN : NumC B r na σ) (hna : NaH B N f s r na) {t y : Int} {k : Nat} (hk8 : k ≤ 8) (ht : Tm B N f s r t) (hw : Way (Brt B r) (onn N f s) (Sn B N f s r) t k y) {M : Int → Prop} (hM : PsC B r σ M) : ∃ g', f_X7_follow F (I r) (I (encR t)) σ = some (I (to8 (Et N f s na y)), g') ∧ g'.2 = σ.2 ∧ (∀ c, c ≠ 34 → g'.1 c = σ.1 c) ∧ PsC B r g' (fun z => M z ∨ OnP (Brt B r) (onn N f s) t k z) := by
  unfold f_X7_follow
  exact c_follow_L h hB hO hN hna hk8 ht hw F 0 M σ (by omega) (by omega) rfl (fun _ _ => rfl) (psc_iff hM (fun z _ _ => ⟨Or.inl, fun q => by
    rcases q with q | ⟨j, q, _⟩
    · exact q
    · omega⟩))
/-- a wire of the class' net -/
def wsC (g : St) (x : Int) (v : Int32) : St := if x < 0 then seti g 80 (-2 - x).toNat v else seti g 79 (8 * (x / 5) + x % 5).toNat v
def rdC (g : St) (x : Int) : Int32 := if x < 0 then g.1 80 (-2 - x).toNat else g.1 79 (8 * (x / 5) + x % 5).toNat
theorem c_setWire {g : St} {x : Int} {v : Int32} (h : (-9 ≤ x ∧ x ≤ -2) ∨ (0 ≤ x ∧ x < 2000)) : f_X4_setWire 77 (I (to8 x)) v g = some (wsC g x v) := by
  unfold f_X4_setWire f_X11_isInside f_X11_endOf wsC
  by_cases hx : x < 0
  · rw [to8_n hx, if_pos hx]
    simp (maxSteps := 4000000) (disch := omega) only [I_lits, nz, nc, if_pos, if_neg, if_true, if_false, Option.bind_some, true_and, and_true, and_self, or_true, true_or, or_false, false_or, not_true_eq_false, not_false_eq_true, false_and, and_false, Bool.false_eq_true, decide_true, decide_false, eq_self]
  · rw [to8_p (by omega), if_neg hx]
    simp (maxSteps := 4000000) (disch := omega) only [I_lits, nz, nc, if_pos, if_neg, if_true, if_false, Option.bind_some, true_and, and_true, and_self, or_true, true_or, or_false, false_or, not_true_eq_false, not_false_eq_true, false_and, and_false, Bool.false_eq_true, decide_true, decide_false, eq_self]
theorem rd_ws {g : St} {x y : Int} {v : Int32} (hx : (-9 ≤ x ∧ x ≤ -2) ∨ (0 ≤ x ∧ x < 2000)) (hy : (-9 ≤ y ∧ y ≤ -2) ∨ (0 ≤ y ∧ y < 2000)) : rdC (wsC g x v) y = if y = x then v else rdC g y := by
  unfold rdC wsC
  by_cases a : x < 0
  · by_cases b : y < 0
    · rw [if_pos a, if_pos b, if_pos b, seti1]
      by_cases e : y = x
      · rw [if_pos e, if_pos (by rw [e]; exact ⟨rfl, rfl⟩)]
      · rw [if_neg e, if_neg (by omega)]
    · rw [if_pos a, if_neg b, if_neg b, seti_r (by omega), if_neg (by omega)]
  · by_cases b : y < 0
    · rw [if_neg a, if_pos b, if_pos b, seti_r (by omega), if_neg (by omega)]
    · rw [if_neg a, if_neg b, if_neg b, seti1]
      by_cases e : y = x
      · rw [if_pos e, if_pos (by rw [e]; exact ⟨rfl, rfl⟩)]
      · rw [if_neg e, if_neg (by omega)]
theorem ws_fr {g : St} {x : Int} {v : Int32} : (wsC g x v).2 = g.2 ∧ ∀ k, k ≠ 79 → k ≠ 80 → (wsC g x v).1 k = g.1 k := by
  unfold wsC
  split
  · exact ⟨rfl, fun k a b => seti_r b⟩
  · exact ⟨rfl, fun k a b => seti_r a⟩
end STC
