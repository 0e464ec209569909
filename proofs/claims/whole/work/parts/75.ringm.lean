/-! rings and through-wires in the reference -/
section RNM
variable {B : BkT} {N N' : NtT} {f s r : Int} {na : Int → Int} {σ τ : St} {F : Nat}
theorem m_wireOut (h : SH B N f s r) (hF : 10000 ≤ F) (hna : NaH B N f s r na) (hV : NetV B N') (hB : BkM B τ) (hO : OutM B N f s r τ) (hN : NumM B r na τ) : ∀ (n : Nat) (o : Int) (A D : Int → Prop) (g : St), 0 ≤ o → o ≤ 10 → 10 - o < n → StM B N f s r na N' τ g A D → (∀ t, Tm B N f s r t → t < 60 → A t) → (∀ x, PrtD B N f s r na (PrtA 60) x → D x) → (∀ t, Tm B N f s r t → t < 60 + o → Cov B N f s r A t ∧ D (Et N f s na t)) → ∃ g' A' D', f_X12_doStep_L379 F (I r) (I (Bpt B (Nk N f))) (I (Bpt B (Nk N s))) n (I o) g = some g' ∧ StM B N f s r na N' τ g' A' D' ∧ ∀ t, Tm B N f s r t → Cov B N f s r A' t ∧ D' (Et N f s na t) := by
  have hr0 := h.2.2.2.2.1
  have hr1 := h.2.2.2.2.2.1
  have hrn := h.1.2.1.2.1
  have hVN := h.1.2.2
  intro n
  induction n with
  | zero => intro o A D g h0 h1 h2; omega
  | succ n ih =>
    intro o A D g h0 h1 h2 hg hA hD hC
    rw [f_X12_doStep_L379]
    by_cases ho : o = 10
    · rw [if_neg (by rw [ho]; exact Int32.lt_irrefl)]
      refine ⟨g, A, D, rfl, hg, fun t ht => hC t ht ?_⟩
      have := rl_r h ht.1
      omega
    · have hlt : I o < (10 : Int32) := (I_lt (b := 10) (by omega) (by omega) (by omega) (by omega)).mpr (by omega)
      have his := m_is (B := B) (N := N) h h0 (show o < 10 by omega)
      rw [if_pos hlt, his, Option.bind_some]
      have hin : inb (I o) 10 = true := (I_inb (by omega) (by omega)).mpr ⟨by omega, by omega⟩
      have hix : ix (I o) = o.toNat := I_ix (by omega) (by omega)
      have skip : (∀ t, Tm B N f s r t → t = 60 + o → Cov B N f s r A t ∧ D (Et N f s na t)) → ∃ g' A' D', f_X12_doStep_L379 F (I r) (I (Bpt B (Nk N f))) (I (Bpt B (Nk N s))) n (I (o + 1)) g = some g' ∧ StM B N f s r na N' τ g' A' D' ∧ ∀ t, Tm B N f s r t → Cov B N f s r A' t ∧ D' (Et N f s na t) := by
        intro hs
        refine ih (o + 1) A D g (by omega) (by omega) (by omega) hg hA hD (fun t ht q => ?_)
        by_cases e : t = 60 + o
        · exact hs t ht e
        · exact hC t ht (by omega)
      by_cases hR : RLiv B r (60 + o)
      · have e40 : g.1 40 = τ.1 40 := hg.1.2 40 (by omega) (by omega) (by omega)
        have hOu := hO _ hR (by omega)
        rw [show 60 + o - 60 = o by omega] at hOu
        rw [if_pos hR, if_neg (by decide), if_pos hin, hix, e40]
        by_cases hS : Sn B N f s r (60 + o)
        · have hos := os_b h hS
          have hob := rl_r h hos.1
          have hge : ¬ (I (10000 + (onn N f s (60 + o) - 60)) < (10000 : Int32)) := by
            rw [show (10000 : Int32) = I 10000 from rfl, I_lt (by omega) (by omega) (by omega) (by omega)]; omega
          rw [hOu.1 hS, if_neg hge, Option.bind_some, show (1 : Int32) = I 1 from rfl, I_add]
          exact skip (fun t ht e => absurd hS (by rw [← e]; exact ht.2))
        · have ht : Tm B N f s r (60 + o) := ⟨hR, hS⟩
          have hlr := liv_r hVN (hVN.2.2.2 _ (ps_l h hR (by omega))).1
          rw [show 60 + o - 60 = o by omega] at hlr
          have hl1 : I (Nw N (ps f s o)) < (10000 : Int32) := (I_lt (b := 10000) (by omega) (by omega) (by omega) (by omega)).mpr (by omega)
          have hBg := frx_B hB hg.1
          have hto := m_rto h hBg hR
          have eidx : (70 : Int32) * I r + (60 : Int32) + I o = I (70 * r + (60 + o)) := by
            rw [show (70 : Int32) = I 70 from rfl, show (60 : Int32) = I 60 from rfl, I_mul, I_add, I_add]; congr 1; omega
          have hix3 : ix (I (70 * r + (60 + o))) = (70 * r + (60 + o)).toNat := I_ix (by omega) (by omega)
          have hD2 := rt_l h hR
          have hb2 := rl_r h hD2
          have eEt : Et N f s na (60 + o) = Nw N (ps f s o) := by
            unfold Et
            rw [if_neg (by omega), show 60 + o - 60 = o by omega]
          rw [hOu.2 hS, if_pos hl1, eidx, if_pos hto.1, hix3, hto.2]
          by_cases hu : Brt B r (60 + o) < 60
          · have hle : ¬ ((60 : Int32) ≤ I (Brt B r (60 + o))) := by
              rw [show (60 : Int32) = I 60 from rfl, I_le (by omega) (by omega) (by omega) (by omega)]; omega
            rw [if_neg hle, Option.bind_some, show (1 : Int32) = I 1 from rfl, I_add]
            refine skip (fun t ht' e => ?_)
            subst e
            have hinv := (st_ph h).1 _ hR
            have hty : Tm B N f s r (Brt B r (60 + o)) := ⟨hD2, fun q => by have := q.2.1; omega⟩
            have way : Way (Brt B r) (onn N f s) (Sn B N f s r) (Brt B r (60 + o)) 0 (60 + o) := ⟨fun j hj => by omega, hS, hinv.2.1⟩
            exact ⟨Or.inr ⟨_, 0, hA _ hty hu, hty, way⟩, hD _ ⟨_, 0, _, hu, hty, way, Or.inr rfl⟩⟩
          · have hle : (60 : Int32) ≤ I (Brt B r (60 + o)) := (I_le (a := 60) (by omega) (by omega) (by omega) (by omega)).mpr (by omega)
            obtain ⟨k, y, k8, way⟩ := st_way h ht
            have hy := way_tm h ht way
            have o1 := et_ok h hna ht
            have p1 : PsM B r (seti g 41 o.toNat (I 1)) (fun z => Mkd B N f s r A z ∨ z = 60 + o) := by
              have := psm_set hg.2.1 (t := 60 + o) (by omega)
              rw [show 60 + o - 60 = o by omega] at this
              exact this
            have hBs : BkM B (seti g 41 o.toNat (I 1)) := bkm_fr hBg (fun c _ _ => seti_r (by omega)) (fun j _ => by rw [seti_r (by omega)]) rfl
            have hOs : OutM B N f s r (seti g 41 o.toNat (I 1)) := fun t a b => by rw [seti_r (by omega), e40]; exact hO t a b
            have hNs : NumM B r na (seti g 41 o.toNat (I 1)) := fun i a b => by rw [seti_r (by omega), hg.1.2 42 (by omega) (by omega) (by omega)]; exact hN i a b
            obtain ⟨g1, a1, a2, a3, a4⟩ := m_outward h hF hBs hOs hNs hna k8 ht way (by omega) p1
            have e10 : (seti g 41 o.toNat (I 1)).1 10 = g.1 10 := seti_r (by omega)
            have e40' : (seti g 41 o.toNat (I 1)).1 40 = τ.1 40 := by rw [seti_r (by omega), e40]
            rw [if_pos hle, if_pos hin, Option.bind_some, if_pos hin, if_pos hto.1, show (1 : Int32) = I 1 from rfl, e10, hto.2, show (60 : Int32) = I 60 from rfl, I_sub, a1, Option.bind_some, e40', hOu.2 hS, ← eEt, m_wire o1, Option.bind_some, Option.bind_some, I_add]
            refine ih (o + 1) (fun x => A x ∨ x = 60 + o) (fun x => D x ∨ x = Et N f s na (60 + o)) _ (by omega) (by omega) (by omega) ⟨⟨?_, ?_⟩, ?_, ?_⟩ (fun t a b => Or.inl (hA t a b)) (fun x q => Or.inl (hD x q)) ?_
            · rw [wsm_fr.1, a2]; exact hg.1.1
            · intro c x1 x2 x3
              rw [wsm_fr.2 c x2 x3, a3 c x1, seti_r x1, hg.1.2 c x1 x2 x3]
            · have p2 : PsM B r (wsM g1 (Et N f s na (60 + o)) (I (Et N f s na y))) (fun z => (Mkd B N f s r A z ∨ z = 60 + o) ∨ OnM (Brt B r) (onn N f s) (60 + o) k z) := by
                unfold PsM at a4 ⊢
                rw [wsm_fr.2 41 (by omega) (by omega)]; exact a4
              refine psm_iff p2 (fun z _ _ => ?_)
              rw [mkd_add ht way, ← onm_p]
              constructor
              · rintro ((q | q) | q)
                · exact Or.inl q
                · exact Or.inr (Or.inr q)
                · exact Or.inr (Or.inl q)
              · rintro (q | q | q)
                · exact Or.inl (Or.inl q)
                · exact Or.inr q
                · exact Or.inl (Or.inr q)
            · intro x hx hd
              have ox := liv_ok hV hx
              rw [rdm_ws o1 ox]
              by_cases e1 : x = Et N f s na (60 + o)
              · rw [if_pos e1, e1, nw_E h hna ht way]
              · rw [if_neg e1]
                have := hg.2.2 x hx (by
                  rcases hd with q | q | q
                  · exact Or.inl q
                  · exact Or.inr q
                  · exact absurd q e1)
                unfold rdM at this ⊢
                rw [a3 13 (by omega), a3 14 (by omega), seti_r (by omega), seti_r (by omega)]; exact this
            · intro t ht' q
              by_cases e : t = 60 + o
              · rw [e]; exact ⟨Or.inl (Or.inr rfl), Or.inr rfl⟩
              · obtain ⟨w1, w2⟩ := hC t ht' (by omega)
                refine ⟨?_, Or.inl w2⟩
                rcases w1 with w1 | ⟨t', k', w1, w3, w4⟩
                · exact Or.inl (Or.inl w1)
                · exact Or.inr ⟨t', k', Or.inl w1, w3, w4⟩
      · rw [if_neg hR, if_pos (by decide), Option.bind_some, show (1 : Int32) = I 1 from rfl, I_add]
        exact skip (fun t ht e => absurd ht.1 (by rw [e]; exact hR))
theorem m_round_L (h : SH B N f s r) (hB : BkM B τ) (hO : OutM B N f s r τ) {x : Int} {M : Int → Prop} {p : Nat} (hx : Unp B N f s r x) (hM : Clo (Brt B r) (onn N f s) (Unp B N f s r) M) (hn : ¬ M x) (p1 : 1 ≤ p) (hp : itr (onn N f s) (Brt B r) p x = x) (hmin : ∀ j, 1 ≤ j → j < p → itr (onn N f s) (Brt B r) j x ≠ x) : ∀ (n j : Nat) (g : St), j ≤ p → p - j < n → g.2 = τ.2 → (∀ c, c ≠ 41 → g.1 c = τ.1 c) → PsM B r g (fun z => (Mkd B N f s r (fun _ => True) z ∨ M z) ∨ OnL (onn N f s) (Brt B r) x j z) → ∃ g', f_X12_goRound_L2 F (I r) n (I (itr (onn N f s) (Brt B r) j x - 60)) g = some (I 1, g') ∧ g'.2 = τ.2 ∧ (∀ c, c ≠ 41 → g'.1 c = τ.1 c) ∧ PsM B r g' (fun z => (Mkd B N f s r (fun _ => True) z ∨ M z) ∨ OnL (onn N f s) (Brt B r) x p z) := by
  have hr0 := h.2.2.2.2.1
  have hr1 := h.2.2.2.2.2.1
  have hrn := h.1.2.1.2.1
  have hph := ph_swap (un_ph h)
  intro n
  induction n with
  | zero => intro j g h1 h2; omega
  | succ n ih =>
    intro j g h1 h2 h3 h4 h5
    have uj := itr_U hph hx j
    have ub := rl_r h uj.1
    have hj6 := uj.2.1
    have hin : inb (I (itr (onn N f s) (Brt B r) j x - 60)) 10 = true := (I_inb (by omega) (by omega)).mpr ⟨by omega, by omega⟩
    have hix : ix (I (itr (onn N f s) (Brt B r) j x - 60)) = (itr (onn N f s) (Brt B r) j x - 60).toNat := I_ix (by omega) (by omega)
    rw [f_X12_goRound_L2, if_pos hin, hix]
    by_cases hj : j = p
    · have hx6 := hx.2.1
      have := (h5 x hx.1 hx6).1 (Or.inr ⟨0, by omega, Or.inl rfl⟩)
      rw [hj, hp, this, if_neg (by decide)]
      exact ⟨g, rfl, h3, h4, by rw [hj] at h5; exact h5⟩
    · have hun : ¬ ((Mkd B N f s r (fun _ => True) (itr (onn N f s) (Brt B r) j x) ∨ M (itr (onn N f s) (Brt B r) j x)) ∨ OnL (onn N f s) (Brt B r) x j (itr (onn N f s) (Brt B r) j x)) := by
        cases j with
        | zero =>
          rintro ((q | q) | ⟨i, q, _⟩)
          · exact hx.2.2 q
          · exact hn q
          · omega
        | succ j =>
          have := cl_fresh hph (clo_swap hM) hx hn hmin (j := j + 1) (by omega) (by omega)
          rintro ((q | q) | q)
          · exact uj.2.2 q
          · exact this (Or.inl q)
          · exact this (Or.inr q)
      have h0 := (h5 _ uj.1 hj6).2 hun
      have hS := un_S h uj
      have hOu := (hO _ uj.1 hj6).1 hS
      have uo := (hph.1 _ uj).1
      have uob := rl_r h uo.1
      have uo6 := uo.2.1
      have unx := (hph.2 _ uo).2.1
      have unb := rl_r h unx.1
      have un6 := unx.2.1
      have q1 := psm_set h5 hj6
      have q2 := psm_set q1 uo6
      have e40 : (seti g 41 (itr (onn N f s) (Brt B r) j x - 60).toNat (I 1)).1 40 = τ.1 40 := by rw [seti_r (by omega), h4 40 (by omega)]
      have e10000 : I (10000 + (onn N f s (itr (onn N f s) (Brt B r) j x) - 60)) - (10000 : Int32) = I (onn N f s (itr (onn N f s) (Brt B r) j x) - 60) := by
        rw [show (10000 : Int32) = I 10000 from rfl, I_sub]; congr 1; omega
      have hin2 : inb (I (onn N f s (itr (onn N f s) (Brt B r) j x) - 60)) 10 = true := (I_inb (by omega) (by omega)).mpr ⟨by omega, by omega⟩
      have hix2 : ix (I (onn N f s (itr (onn N f s) (Brt B r) j x) - 60)) = (onn N f s (itr (onn N f s) (Brt B r) j x) - 60).toNat := I_ix (by omega) (by omega)
      have eidx : (70 : Int32) * I r + (60 : Int32) + I (onn N f s (itr (onn N f s) (Brt B r) j x) - 60) = I (70 * r + onn N f s (itr (onn N f s) (Brt B r) j x)) := by
        rw [show (70 : Int32) = I 70 from rfl, show (60 : Int32) = I 60 from rfl, I_mul, I_add, I_add]; congr 1; omega
      have hix3 : ix (I (70 * r + onn N f s (itr (onn N f s) (Brt B r) j x))) = (70 * r + onn N f s (itr (onn N f s) (Brt B r) j x)).toNat := I_ix (by omega) (by omega)
      have hto := m_rto h hB uo.1
      have e10 : (seti (seti g 41 (itr (onn N f s) (Brt B r) j x - 60).toNat (I 1)) 41 (onn N f s (itr (onn N f s) (Brt B r) j x) - 60).toNat (I 1)).1 10 = τ.1 10 := by rw [seti_r (by omega), seti_r (by omega), h4 10 (by omega)]
      have hnl : ¬ (I (Brt B r (onn N f s (itr (onn N f s) (Brt B r) j x))) < (60 : Int32)) := by
        rw [show (60 : Int32) = I 60 from rfl, I_lt (by omega) (by omega) (by omega) (by omega)]; omega
      rw [h0, if_pos (by rfl), if_pos hin, Option.bind_some, show (1 : Int32) = I 1 from rfl, if_pos hin, Option.bind_some, e40, hOu, e10000, if_pos hin2, hix2, Option.bind_some, eidx, if_pos hto.1, Option.bind_some, e10, hix3, hto.2, if_neg hnl, Option.bind_some, show (60 : Int32) = I 60 from rfl, I_sub]
      exact ih (j + 1) _ (by omega) (by omega) h3 (fun c hc => by rw [seti_r hc, seti_r hc, h4 c hc]) (psm_iff q2 (fun z _ _ => by
        rw [onl_suc]
        constructor
        · rintro (((q | q) | q) | q)
          · exact Or.inl q
          · exact Or.inr (Or.inl q)
          · exact Or.inr (Or.inr (Or.inl q))
          · exact Or.inr (Or.inr (Or.inr q))
        · rintro (q | q | q | q)
          · exact Or.inl (Or.inl (Or.inl q))
          · exact Or.inl (Or.inl (Or.inr q))
          · exact Or.inl (Or.inr q)
          · exact Or.inr q))
def vo (o : Int) : Int := 4 * (o / 5) + if o % 5 = 0 then 0 else o % 5 - 1
theorem m_rings_L (h : SH B N f s r) (hF : 10000 ≤ F) (hB : BkM B τ) (hO : OutM B N f s r τ) (base : Int32) : ∀ (n : Nat) (o c : Int) (M : Int → Prop) (g : St), 0 ≤ o → o ≤ 10 → 10 - o < n → g.2 = τ.2 → (∀ c, c ≠ 41 → c ≠ 0 → g.1 c = τ.1 c) → (∀ j, j ≠ 19 → g.1 0 j = τ.1 0 j) → g.1 0 19 = base + I c → Clo (Brt B r) (onn N f s) (Unp B N f s r) M → PsM B r g (fun z => Mkd B N f s r (fun _ => True) z ∨ M z) → ∃ g', f_X12_doStep_L524 F (I r) (I (Bpt B (Nk N f))) (I (Bpt B (Nk N s))) n (I o) g = some g' ∧ g'.2 = τ.2 ∧ (∀ c, c ≠ 41 → c ≠ 0 → g'.1 c = τ.1 c) ∧ (∀ j, j ≠ 19 → g'.1 0 j = τ.1 0 j) ∧ g'.1 0 19 = base + I (c + rgA (Brt B r) (onn N f s) (Unp B N f s r) (8 - vo o).toNat (vo o) M) := by
  intro n
  induction n with
  | zero => intro o c M g h0 h1 h2; omega
  | succ n ih =>
    intro o c M g h0 h1 h2 h3 h4 h4' hb hM h5
    rw [f_X12_doStep_L524]
    by_cases ho : o = 10
    · rw [if_neg (by rw [ho]; exact Int32.lt_irrefl)]
      refine ⟨g, rfl, h3, h4, h4', ?_⟩
      have : (8 - vo o).toNat = 0 := by rw [ho]; decide
      rw [this, rgA, Int.add_zero]; exact hb
    · have hlt : I o < (10 : Int32) := (I_lt (b := 10) (by omega) (by omega) (by omega) (by omega)).mpr (by omega)
      have his := m_is (B := B) (N := N) h h0 (show o < 10 by omega)
      rw [if_pos hlt, his, Option.bind_some]
      have hin : inb (I o) 10 = true := (I_inb (by omega) (by omega)).mpr ⟨by omega, by omega⟩
      have hix : ix (I o) = o.toNat := I_ix (by omega) (by omega)
      have e40 : g.1 40 = τ.1 40 := h4 40 (by omega) (by omega)
      by_cases h5' : o % 5 = 0
      · have hR : ¬ RLiv B r (60 + o) := fun q => by
          have := sl_b h q (by omega)
          rw [show 60 + o - 60 = o by omega] at this
          omega
        have ev : vo (o + 1) = vo o := by
          unfold vo
          rw [if_pos h5', if_neg (by omega)]; omega
        rw [if_neg hR, if_pos (by decide), Option.bind_some, show (1 : Int32) = I 1 from rfl, I_add, ← ev]
        exact ih (o + 1) c M g (by omega) (by omega) (by omega) h3 h4 h4' hb hM h5
      · have ev0 : vo o = 4 * (o / 5) + (o % 5 - 1) := by unfold vo; rw [if_neg h5']
        have ev : vo (o + 1) = vo o + 1 := by
          rw [ev0]
          unfold vo
          by_cases q : (o + 1) % 5 = 0
          · rw [if_pos q]; omega
          · rw [if_neg q]; omega
        have end' : 61 + 5 * (vo o / 4) + vo o % 4 = 60 + o := by rw [ev0]; omega
        obtain ⟨m, hm⟩ : ∃ m, (8 - vo o).toNat = m + 1 := ⟨(8 - vo o).toNat - 1, by rw [ev0]; omega⟩
        have hm' : (8 - vo (o + 1)).toNat = m := by rw [ev]; omega
        rw [hm, rgA, end']
        by_cases hU : Unp B N f s r (60 + o) ∧ ¬ M (60 + o)
        · have hp0 := (h5 _ hU.1.1 hU.1.2.1).2 (fun q => by
            rcases q with q | q
            · exact hU.1.2.2 q
            · exact hU.2 q)
          rw [show 60 + o - 60 = o by omega] at hp0
          have hS := un_S h hU.1
          have hOu := (hO _ hU.1.1 (by omega)).1 hS
          rw [show 60 + o - 60 = o by omega] at hOu
          have hos := os_b h hS
          have hob := rl_r h hos.1
          have ho6 := hos.2.1
          have hle : (10000 : Int32) ≤ I (10000 + (onn N f s (60 + o) - 60)) := (I_le (a := 10000) (by omega) (by omega) (by omega) (by omega)).mpr (by omega)
          obtain ⟨p', hp'⟩ := itr_per (ph_swap (un_ph h)) (un_cod h _) hU.1
          obtain ⟨p, p1, p2, p3, p4⟩ := least_per (P := fun m => itr (onn N f s) (Brt B r) m (60 + o) = 60 + o) 8 ⟨p', hp'⟩
          have hBg : BkM B g := bkm_fr hB (fun c _ _ => h4 c (by omega) (by omega)) (fun j hj => h4' j (by omega)) (by rw [h3])
          have hOg : OutM B N f s r g := fun t a b => by rw [e40]; exact hO t a b
          obtain ⟨g1, a1, a2, a3, a4⟩ := m_round_L (F := F) h hBg hOg hU.1 hM hU.2 p1 p3 p4 F 0 g (by omega) (by omega) rfl (fun _ _ => rfl) (psm_iff h5 (fun z _ _ => ⟨Or.inl, fun q => by
            rcases q with q | ⟨j, q, _⟩
            · exact q
            · omega⟩))
          have a1' : f_X12_goRound F (I r) (I o) g = some (I 1, g1) := by
            unfold f_X12_goRound
            have : itr (onn N f s) (Brt B r) 0 (60 + o) - 60 = o := by
              show 60 + o - 60 = o
              omega
            rw [this] at a1
            exact a1
          have hcl := fun z => (cl_marks (ph_swap (un_ph h)) (clo_swap hM) hU.1 p1 (Nat.le_refl p) p3 z).trans cl_swap
          rw [if_pos hU.1.1, if_neg (by decide), if_pos hin, hix, hp0, if_pos (by rfl), if_pos hin, e40, hOu, if_pos hle, a1', Option.bind_some]
          rw [if_neg (show ¬ ((I 1, g1).1 = (0 : Int32)) from (by decide : ¬ (I 1 = (0 : Int32)))), Option.bind_some, Option.bind_some, Option.bind_some, show (1 : Int32) = I 1 from rfl, I_add]
          have hb' : g.1 0 19 + I 1 = base + I (c + 1) := by rw [hb, Int32.add_assoc, I_add]
          obtain ⟨g', b1, b2, b3, b4, b5⟩ := ih (o + 1) (c + 1) (cl (Brt B r) (onn N f s) (Unp B N f s r) M (60 + o)) (seti g1 0 19 (g.1 0 19 + I 1)) (by omega) (by omega) (by omega) (by rw [seti2, a2, h3]) (fun c x1 x2 => by rw [seti_r x2, a3 c x1, h4 c x1 x2]) (fun j hj => by rw [seti1, if_neg (by omega), a3 0 (by omega), h4' j hj]) (by rw [seti1, if_pos ⟨rfl, rfl⟩, hb']) cl_clo (by
            have a4' : PsM B r (seti g1 0 19 (g.1 0 19 + I 1)) (fun z => (Mkd B N f s r (fun _ => True) z ∨ M z) ∨ OnL (onn N f s) (Brt B r) (60 + o) p z) := by
              unfold PsM at a4 ⊢
              rw [seti_r (by omega)]; exact a4
            refine psm_iff a4' (fun z _ _ => ?_)
            rw [← hcl z]
            constructor
            · rintro ((q | q) | q)
              · exact Or.inl q
              · exact Or.inr (Or.inl q)
              · exact Or.inr (Or.inr q)
            · rintro (q | q | q)
              · exact Or.inl (Or.inl q)
              · exact Or.inl (Or.inr q)
              · exact Or.inr q)
          refine ⟨g', b1, b2, b3, b4, ?_⟩
          rw [b5, if_pos hU, hm', ev]
          congr 2
          omega
        · have rest := ih (o + 1) c M g (by omega) (by omega) (by omega) h3 h4 h4' hb hM h5
          rw [hm', ev] at rest
          rw [if_neg hU]
          by_cases hR : RLiv B r (60 + o)
          · have hp1 := (h5 _ hR (by omega)).1 (by
              by_cases hVv : Mkd B N f s r (fun _ => True) (60 + o)
              · exact Or.inl hVv
              · right
                by_cases hmm : M (60 + o)
                · exact hmm
                · exact absurd ⟨⟨hR, by omega, hVv⟩, hmm⟩ hU)
            rw [show 60 + o - 60 = o by omega] at hp1
            rw [if_pos hR, if_neg (by decide), if_pos hin, hix, hp1, if_neg (by decide), Option.bind_some, show (1 : Int32) = I 1 from rfl, I_add]
            exact rest
          · rw [if_neg hR, if_pos (by decide), Option.bind_some, show (1 : Int32) = I 1 from rfl, I_add]
            exact rest
end RNM
