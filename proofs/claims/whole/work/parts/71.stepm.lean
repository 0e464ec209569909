/-! a step in the reference -/
def OutM (B : BkT) (N : NtT) (f s r : Int) (τ : St) : Prop := ∀ t, RLiv B r t → 60 ≤ t → (Sn B N f s r t → τ.1 40 (t - 60).toNat = I (10000 + (onn N f s t - 60))) ∧ (¬ Sn B N f s r t → τ.1 40 (t - 60).toNat = I (Nw N (ps f s (t - 60))))
def PsM (B : BkT) (r : Int) (τ : St) (M : Int → Prop) : Prop := ∀ t, RLiv B r t → 60 ≤ t → (M t → τ.1 41 (t - 60).toNat = I 1) ∧ (¬ M t → τ.1 41 (t - 60).toNat = I 0)
def NumM (B : BkT) (r : Int) (na : Int → Int) (τ : St) : Prop := ∀ i, 0 ≤ i → i < Bra B r → τ.1 42 i.toNat = I (na i)
/-- what the reference marks on its way out -/
def OnM (r o : Int → Int) (t : Int) (k : Nat) (z : Int) : Prop := (∃ j, j ≤ k ∧ z = r (itr r o j t)) ∨ ∃ j, 1 ≤ j ∧ j ≤ k ∧ z = itr r o j t
theorem psm_iff {B : BkT} {r : Int} {τ : St} {M M' : Int → Prop} (h : PsM B r τ M) (e : ∀ t, RLiv B r t → 60 ≤ t → (M t ↔ M' t)) : PsM B r τ M' :=
  fun t a b => ⟨fun q => (h t a b).1 ((e t a b).mpr q), fun q => (h t a b).2 (fun w => q ((e t a b).mp w))⟩
theorem psm_set {B : BkT} {r : Int} {τ : St} {M : Int → Prop} (h : PsM B r τ M) {t : Int} (h6 : 60 ≤ t) : PsM B r (seti τ 41 (t - 60).toNat (I 1)) (fun z => M z ∨ z = t) := by
  intro z hz hz6
  refine ⟨fun q => ?_, fun q => ?_⟩
  · rw [seti1]
    by_cases e : z = t
    · rw [if_pos (by rw [e]; exact ⟨rfl, rfl⟩)]
    · rw [if_neg (by omega)]
      rcases q with q | q
      · exact (h z hz hz6).1 q
      · exact absurd q e
  · rw [seti1, if_neg (fun w => q (Or.inr (by omega)))]
    exact (h z hz hz6).2 (fun w => q (Or.inl w))
def ow0 : Nat → Int32 × St → Option (Int32 × St) := fun _ t15 => Option.bind (f_X12_fresh t15.1 t15.2) fun x16 => some (x16, t15.2)
def ow1 : Int32 × St → Option (Int32 × St) := fun t17 => if inb t17.1 10 then (some (t17.2.1 (40) (ix t17.1), t17.2)) else none
section STM
variable {B : BkT} {N : NtT} {f s r : Int} {na : Int → Int} {τ : St} {F : Nat}
theorem m_fresh (h : SH B N f s r) (hna : NaH B N f s r na) (hN : NumM B r na τ) {t : Int} (hR : RLiv B r t) (h6 : t < 60) : f_X12_fresh (I t) τ = some (I (5 * na (t / 5) + t % 5)) := by
  unfold f_X12_fresh
  have hp := pt_b h hR h6
  have hnb := hna.1 _ (by omega) hp.2.1
  have hnum := hN _ (by omega) hp.2.1
  simp (maxSteps := 4000000) (disch := omega) only [I_lits, nz, nc, if_pos, if_neg, if_true, if_false, Option.bind_some, true_and, and_true, and_self, or_true, true_or, or_false, false_or, not_true_eq_false, not_false_eq_true, false_and, and_false, Bool.false_eq_true, decide_true, decide_false, eq_self, hnum]
  congr 2
  omega
theorem m_rto (h : SH B N f s r) (hB : BkM B τ) {t : Int} (hR : RLiv B r t) : inb (I (70 * r + t)) 4200 = true ∧ τ.1 10 (70 * r + t).toNat = I (Brt B r t) := by
  have hr0 := h.2.2.2.2.1
  have hr1 := h.2.2.2.2.2.1
  have hrn := h.1.2.1.2.1
  have hb := rl_r h hR
  exact ⟨(I_inb (by omega) (by omega)).mpr ⟨by omega, by omega⟩, hB.2.2.2.2.2 r t hr0 hr1 hR⟩
theorem m_outward_L (h : SH B N f s r) (hB : BkM B τ) (hO : OutM B N f s r τ) (hN : NumM B r na τ) (hna : NaH B N f s r na) {t y : Int} {k : Nat} (ht : Tm B N f s r t) (hw : Way (Brt B r) (onn N f s) (Sn B N f s r) t k y) : ∀ (n j : Nat) (M : Int → Prop) (g : St), j ≤ k → k - j < n → g.2 = τ.2 → (∀ c, c ≠ 41 → g.1 c = τ.1 c) → 60 ≤ Brt B r (itr (Brt B r) (onn N f s) j t) → PsM B r g (fun z => M z ∨ (∃ i, i < j ∧ z = Brt B r (itr (Brt B r) (onn N f s) i t)) ∨ ∃ i, 1 ≤ i ∧ i ≤ j ∧ z = itr (Brt B r) (onn N f s) i t) → ∃ g', f_X12_outward_L2 F (I r) (ow0 F) ow1 n (I (Brt B r (itr (Brt B r) (onn N f s) j t) - 60)) g = some (I (Et N f s na y), g') ∧ g'.2 = τ.2 ∧ (∀ c, c ≠ 41 → g'.1 c = τ.1 c) ∧ PsM B r g' (fun z => M z ∨ OnM (Brt B r) (onn N f s) t k z) := by
  intro n
  have hr0 := h.2.2.2.2.1
  have hr1 := h.2.2.2.2.2.1
  have hrn := h.1.2.1.2.1
  have hV := h.1.2.2
  induction n with
  | zero => intro j M g h1 h2; omega
  | succ n ih =>
    intro j M g h1 h2 h3 h4 h6 h5
    have hph := st_ph h
    have hD := itr_D hph ht.1 j (fun l hl => hw.1 l (by omega))
    have hD2 := rt_l h hD
    have hb := rl_r h hD2
    have p1 := psm_set h5 h6
    have hOu := hO _ hD2 h6
    have hin : inb (I (Brt B r (itr (Brt B r) (onn N f s) j t) - 60)) 10 = true := (I_inb (by omega) (by omega)).mpr ⟨by omega, by omega⟩
    have hix : ix (I (Brt B r (itr (Brt B r) (onn N f s) j t) - 60)) = (Brt B r (itr (Brt B r) (onn N f s) j t) - 60).toNat := I_ix (by omega) (by omega)
    have e40 : ∀ v : Nat, ∀ x : Int32, (seti g 41 v x).1 40 = τ.1 40 := fun v x => by rw [seti_r (by omega), h4 40 (by omega)]
    rw [f_X12_outward_L2, if_pos hin, Option.bind_some, hix, show (1 : Int32) = I 1 from rfl, e40]
    by_cases hS : Sn B N f s r (Brt B r (itr (Brt B r) (onn N f s) j t))
    · have hjk : j < k := by
        rcases Nat.lt_or_ge j k with q | q
        · exact q
        · exfalso
          have e : j = k := by omega
          have := hw.2.1
          rw [← hw.2.2, ← e] at this
          exact this hS
      have hos := os_b h hS
      have hob := rl_r h hos.1
      have hit : itr (Brt B r) (onn N f s) (j + 1) t = onn N f s (Brt B r (itr (Brt B r) (onn N f s) j t)) := by rw [itr]
      have hto := m_rto (τ := τ) h hB hos.1
      have e10 : ∀ (v v' : Nat) (x x' : Int32), (seti (seti g 41 v x) 41 v' x').1 10 = τ.1 10 := fun v v' x x' => by rw [seti_r (by omega), seti_r (by omega), h4 10 (by omega)]
      have hin2 : inb (I (onn N f s (Brt B r (itr (Brt B r) (onn N f s) j t)) - 60)) 10 = true := (I_inb (by omega) (by omega)).mpr ⟨by omega, by omega⟩
      have hix2 : ix (I (onn N f s (Brt B r (itr (Brt B r) (onn N f s) j t)) - 60)) = (onn N f s (Brt B r (itr (Brt B r) (onn N f s) j t)) - 60).toNat := I_ix (by omega) (by omega)
      have hge : ¬ (I (10000 + (onn N f s (Brt B r (itr (Brt B r) (onn N f s) j t)) - 60)) < (10000 : Int32)) := by
        rw [show (10000 : Int32) = I 10000 from rfl, I_lt (by omega) (by omega) (by omega) (by omega)]; omega
      have e10000 : I (10000 + (onn N f s (Brt B r (itr (Brt B r) (onn N f s) j t)) - 60)) - (10000 : Int32) = I (onn N f s (Brt B r (itr (Brt B r) (onn N f s) j t)) - 60) := by
        rw [show (10000 : Int32) = I 10000 from rfl, I_sub]; congr 1; omega
      have eidx : (70 : Int32) * I r + (60 : Int32) + I (onn N f s (Brt B r (itr (Brt B r) (onn N f s) j t)) - 60) = I (70 * r + onn N f s (Brt B r (itr (Brt B r) (onn N f s) j t))) := by
        rw [show (70 : Int32) = I 70 from rfl, show (60 : Int32) = I 60 from rfl, I_mul, I_add, I_add]; congr 1; omega
      have hix3 : ix (I (70 * r + onn N f s (Brt B r (itr (Brt B r) (onn N f s) j t)))) = (70 * r + onn N f s (Brt B r (itr (Brt B r) (onn N f s) j t))).toNat := I_ix (by omega) (by omega)
      rw [if_pos hin, hOu.1 hS, if_neg hge, if_pos hin, Option.bind_some, e10000, if_pos hin2, hix2, Option.bind_some, eidx, if_pos hto.1, e10, hix3, hto.2, Option.bind_some]
      have p2 := psm_set p1 hos.2.1
      have hD3 := rt_l h hos.1
      have hb3 := rl_r h hD3
      have pnext : PsM B r (seti (seti g 41 (Brt B r (itr (Brt B r) (onn N f s) j t) - 60).toNat (I 1)) 41 (onn N f s (Brt B r (itr (Brt B r) (onn N f s) j t)) - 60).toNat (I 1)) (fun z => M z ∨ (∃ i, i < j + 1 ∧ z = Brt B r (itr (Brt B r) (onn N f s) i t)) ∨ ∃ i, 1 ≤ i ∧ i ≤ j + 1 ∧ z = itr (Brt B r) (onn N f s) i t) := psm_iff p2 (fun z hz hz6 => by
        constructor
        · rintro (((q | ⟨i, i1, i2⟩ | ⟨i, i1, i2, i3⟩) | q) | q)
          · exact Or.inl q
          · exact Or.inr (Or.inl ⟨i, by omega, i2⟩)
          · exact Or.inr (Or.inr ⟨i, i1, by omega, i3⟩)
          · exact Or.inr (Or.inl ⟨j, by omega, q⟩)
          · exact Or.inr (Or.inr ⟨j + 1, by omega, by omega, by rw [hit]; exact q⟩)
        · rintro (q | ⟨i, i1, i2⟩ | ⟨i, i1, i2, i3⟩)
          · exact Or.inl (Or.inl (Or.inl q))
          · by_cases e : i = j
            · rw [e] at i2; exact Or.inl (Or.inr i2)
            · exact Or.inl (Or.inl (Or.inr (Or.inl ⟨i, by omega, i2⟩)))
          · by_cases e : i = j + 1
            · rw [e, hit] at i3; exact Or.inr i3
            · exact Or.inl (Or.inl (Or.inr (Or.inr ⟨i, i1, by omega, i3⟩))))
      by_cases hu6 : Brt B r (onn N f s (Brt B r (itr (Brt B r) (onn N f s) j t))) < 60
      · have hk : k = j + 1 := by
          rcases Nat.lt_or_ge (j + 1) k with q | q
          · have := (hw.1 (j + 1) q).2.1
            rw [hit] at this
            omega
          · omega
        have hy : y = Brt B r (onn N f s (Brt B r (itr (Brt B r) (onn N f s) j t))) := by rw [← hw.2.2, hk, hit]
        have hlt : I (Brt B r (onn N f s (Brt B r (itr (Brt B r) (onn N f s) j t)))) < (60 : Int32) := (I_lt (b := 60) (by omega) (by omega) (by omega) (by omega)).mpr hu6
        rw [if_pos hlt]
        unfold ow0
        have hNg : NumM B r na (seti (seti g 41 (Brt B r (itr (Brt B r) (onn N f s) j t) - 60).toNat (I 1)) 41 (onn N f s (Brt B r (itr (Brt B r) (onn N f s) j t)) - 60).toNat (I 1)) := fun i i0 i1 => by
          rw [seti_r (by omega), seti_r (by omega), h4 42 (by omega)]; exact hN i i0 i1
        rw [m_fresh h hna hNg hD3 hu6, Option.bind_some]
        refine ⟨seti (seti g 41 (Brt B r (itr (Brt B r) (onn N f s) j t) - 60).toNat (I 1)) 41 (onn N f s (Brt B r (itr (Brt B r) (onn N f s) j t)) - 60).toNat (I 1), ?_, h3, fun c hc => by rw [seti_r hc, seti_r hc, h4 c hc], psm_iff pnext (fun z hz hz6 => ?_)⟩
        · rw [hy]
          unfold Et
          rw [if_pos hu6]
        · constructor
          · rintro (q | ⟨i, i1, i2⟩ | q)
            · exact Or.inl q
            · exact Or.inr (Or.inl ⟨i, by omega, i2⟩)
            · rw [hk]; exact Or.inr (Or.inr q)
          · rintro (q | ⟨i, i1, i2⟩ | q)
            · exact Or.inl q
            · by_cases e : i = j + 1
              · rw [e, hit] at i2; omega
              · exact Or.inr (Or.inl ⟨i, by omega, i2⟩)
            · rw [hk] at q; exact Or.inr (Or.inr q)
      · have hnl : ¬ (I (Brt B r (onn N f s (Brt B r (itr (Brt B r) (onn N f s) j t)))) < (60 : Int32)) := by
          rw [show (60 : Int32) = I 60 from rfl, I_lt (by omega) (by omega) (by omega) (by omega)]; exact hu6
        rw [if_neg hnl, Option.bind_some, show (60 : Int32) = I 60 from rfl, I_sub]
        have := ih (j + 1) M _ (by omega) (by omega) (show (seti (seti g 41 _ _) 41 _ _).2 = _ from h3) (fun c hc => by rw [seti_r hc, seti_r hc, h4 c hc]) (by rw [hit]; omega) pnext
        rw [hit] at this
        exact this
    · have hk : k = j := by
        rcases Nat.lt_or_ge j k with q | q
        · exact absurd (hw.1 j q) hS
        · omega
      have hy : y = Brt B r (itr (Brt B r) (onn N f s) j t) := by rw [← hw.2.2, hk]
      have hlr := liv_r hV (hV.2.2.2 _ (ps_l h hD2 h6)).1
      have hlt : I (Nw N (ps f s (Brt B r (itr (Brt B r) (onn N f s) j t) - 60))) < (10000 : Int32) := (I_lt (b := 10000) (by omega) (by omega) (by omega) (by omega)).mpr (by omega)
      rw [if_pos hin, hOu.2 hS, if_pos hlt]
      unfold ow1
      rw [if_pos hin, hix, e40, hOu.2 hS]
      refine ⟨seti g 41 (Brt B r (itr (Brt B r) (onn N f s) j t) - 60).toNat (I 1), ?_, h3, fun c hc => by rw [seti_r hc, h4 c hc], psm_iff p1 (fun z hz hz6 => ?_)⟩
      · rw [hy]
        unfold Et
        rw [if_neg (by omega)]
      · rw [hk]
        constructor
        · rintro ((q | ⟨i, i1, i2⟩ | q) | q)
          · exact Or.inl q
          · exact Or.inr (Or.inl ⟨i, by omega, i2⟩)
          · exact Or.inr (Or.inr q)
          · exact Or.inr (Or.inl ⟨j, by omega, q⟩)
        · rintro (q | ⟨i, i1, i2⟩ | q)
          · exact Or.inl (Or.inl q)
          · by_cases e : i = j
            · rw [e] at i2; exact Or.inr i2
            · exact Or.inl (Or.inr (Or.inl ⟨i, by omega, i2⟩))
          · exact Or.inl (Or.inr (Or.inr q))
theorem m_outward (h : SH B N f s r) (hF : 10000 ≤ F) (hB : BkM B τ) (hO : OutM B N f s r τ) (hN : NumM B r na τ) (hna : NaH B N f s r na) {t y : Int} {k : Nat} (hk8 : k ≤ 8) (ht : Tm B N f s r t) (hw : Way (Brt B r) (onn N f s) (Sn B N f s r) t k y) (h6 : 60 ≤ Brt B r t) {M : Int → Prop} (hM : PsM B r τ M) : ∃ g', f_X12_outward F (I r) (I (Brt B r t - 60)) τ = some (I (Et N f s na y), g') ∧ g'.2 = τ.2 ∧ (∀ c, c ≠ 41 → g'.1 c = τ.1 c) ∧ PsM B r g' (fun z => M z ∨ OnM (Brt B r) (onn N f s) t k z) := by
  unfold f_X12_outward
  exact m_outward_L h hB hO hN hna ht hw F 0 M τ (by omega) (by omega) rfl (fun _ _ => rfl) h6 (psm_iff hM (fun z _ _ => ⟨Or.inl, fun q => by
    rcases q with q | ⟨i, i1, _⟩ | ⟨i, i1, i2, _⟩
    · exact q
    · omega
    · omega⟩))
end STM
