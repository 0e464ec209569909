/-! rewiring -/
def Mkd (B : BkT) (N : NtT) (f s r : Int) (A : Int → Prop) (z : Int) : Prop := ∃ t k y, A t ∧ Tm B N f s r t ∧ Way (Brt B r) (onn N f s) (Sn B N f s r) t k y ∧ OnP (Brt B r) (onn N f s) t k z
def WrC (B : BkT) (N : NtT) (f s r : Int) (na : Int → Int) (N' : NtT) (g : St) (D : Int → Prop) : Prop := ∀ x, NLiv B N' x → ((∀ t, Tm B N f s r t → Et N f s na t ≠ x) ∨ D x) → rdC g x = I (to8 (nw' B N f s r na x))
def rdM (g : St) (x : Int) : Int32 := if x < 0 then g.1 14 (-2 - x).toNat else g.1 13 x.toNat
def WrM (B : BkT) (N : NtT) (f s r : Int) (na : Int → Int) (N' : NtT) (g : St) (D : Int → Prop) : Prop := ∀ x, NLiv B N' x → ((∀ t, Tm B N f s r t → Et N f s na t ≠ x) ∨ D x) → rdM g x = I (nw' B N f s r na x)
/-- x can be written -/
def Wok (x : Int) : Prop := (-9 ≤ x ∧ x ≤ -2) ∨ (0 ≤ x ∧ x < 2000)
theorem itr_S_iff {r o : Int → Int} {S D : Int → Prop} (h : PH r o S D) {t y : Int} {k : Nat} (hw : Way r o S t k y) {z : Int} (hz : OnP r o t k z) (hn : ¬ S z) : z = t ∨ z = y := by
  obtain ⟨j, j1, j2 | j2⟩ := hz
  · cases j with
    | zero => exact Or.inl j2
    | succ j =>
      exfalso
      apply hn
      rw [j2]
      exact itr_S h (hw.1 j (by omega))
  · by_cases e : j = k
    · right; rw [j2, e, hw.2.2]
    · exfalso
      apply hn
      rw [j2]; exact hw.1 j (by omega)
theorem onp_rev {r o : Int → Int} {S D : Int → Prop} (h : PH r o S D) {t y : Int} {k : Nat} (ht : D t) (hw : Way r o S t k y) {z : Int} (hz : OnP r o y k z) : OnP r o t k z := by
  obtain ⟨j, j1, j2⟩ := hz
  have e := way_rev_it h ht hw j j1
  refine ⟨k - j, by omega, ?_⟩
  rw [e] at j2
  rcases j2 with q | q
  · exact Or.inr q
  · left
    have d := itr_D h ht (k - j) (fun l hl => hw.1 l (by omega))
    rw [q, (h.1 _ d).2.1]
section WIR
variable {B : BkT} {N N' : NtT} {f s r : Int} {na : Int → Int} {σ τ : St} {F : Nat}
theorem mkd_iff {A A' : Int → Prop} (e : ∀ t, Tm B N f s r t → (A t ↔ A' t)) (z : Int) : Mkd B N f s r A z ↔ Mkd B N f s r A' z := by
  constructor
  · rintro ⟨t, k, y, a, b, c⟩; exact ⟨t, k, y, (e t b).mp a, b, c⟩
  · rintro ⟨t, k, y, a, b, c⟩; exact ⟨t, k, y, (e t b).mpr a, b, c⟩
theorem mkd_add {A : Int → Prop} {t y : Int} {k : Nat} (ht : Tm B N f s r t) (hw : Way (Brt B r) (onn N f s) (Sn B N f s r) t k y) (z : Int) : Mkd B N f s r (fun x => A x ∨ x = t) z ↔ Mkd B N f s r A z ∨ OnP (Brt B r) (onn N f s) t k z := by
  constructor
  · rintro ⟨t', k', y', a | a, b, c, d⟩
    · exact Or.inl ⟨t', k', y', a, b, c, d⟩
    · subst a
      have := way_uniq hw c
      rw [← this.1] at d
      exact Or.inr d
  · rintro (⟨t', k', y', a, b, c, d⟩ | q)
    · exact ⟨t', k', y', Or.inl a, b, c, d⟩
    · exact ⟨t, k, y, Or.inr rfl, ht, hw, q⟩
theorem et_ok (h : SH B N f s r) (hna : NaH B N f s r na) {t : Int} (ht : Tm B N f s r t) : Wok (Et N f s na t) := by
  unfold Et
  have he8 := h.1.2.2.2.1
  by_cases l : t < 60
  · rw [if_pos l]
    have hp := pt_b h ht.1 l
    have := hna.1 _ (by omega) hp.2.1
    exact Or.inr ⟨by omega, by omega⟩
  · rw [if_neg l]
    have hL := (h.1.2.2.2.2.2 _ (ps_l h ht.1 (by omega))).1
    rcases hL with q | q
    · exact Or.inl ⟨by omega, q.1⟩
    · exact Or.inr ⟨q.1, q.2.1⟩
theorem liv_ok (hV : NetV B N') {x : Int} (hL : NLiv B N' x) : Wok x := by
  have := hV.2.1
  rcases hL with q | q
  · exact Or.inl ⟨by omega, q.1⟩
  · exact Or.inr ⟨q.1, q.2.1⟩
/-- both ends of a new wire -/
theorem c_joinE (h : SH B N f s r) (hna : NaH B N f s r na) (hV : NetV B N') {t y : Int} {k : Nat} (ht : Tm B N f s r t) (hw : Way (Brt B r) (onn N f s) (Sn B N f s r) t k y) {g : St} {D : Int → Prop} (hg : WrC B N f s r na N' g D) : ∃ g', f_X4_join (I (to8 (Et N f s na t))) (I (to8 (Et N f s na y))) g = some g' ∧ g'.2 = g.2 ∧ (∀ c, c ≠ 79 → c ≠ 80 → g'.1 c = g.1 c) ∧ WrC B N f s r na N' g' (fun x => D x ∨ x = Et N f s na t ∨ x = Et N f s na y) := by
  have hy := way_tm h ht hw
  have o1 := et_ok h hna ht
  have o2 := et_ok h hna hy.1
  unfold f_X4_join
  rw [c_setWire o1, Option.bind_some, c_setWire o2, Option.bind_some]
  refine ⟨_, rfl, by rw [ws_fr.1, ws_fr.1], fun c a b => by rw [ws_fr.2 c a b, ws_fr.2 c a b], fun x hx hd => ?_⟩
  have ox := liv_ok hV hx
  rw [rd_ws o2 ox]
  by_cases e2 : x = Et N f s na y
  · rw [if_pos e2, e2, nw_E h hna hy.1 hy.2]
  · rw [if_neg e2, rd_ws o1 ox]
    by_cases e1 : x = Et N f s na t
    · rw [if_pos e1, e1, nw_E h hna ht hw]
    · rw [if_neg e1]
      refine hg x hx ?_
      rcases hd with q | q | q | q
      · exact Or.inl q
      · exact Or.inr q
      · exact absurd q e1
      · exact absurd q e2
theorem c_agentsIn (h : SH B N f s r) (hB : BkC B σ 64) : f_X8_agentsIn (I r) σ = some (I (Bra B r)) := by
  have hr0 := h.2.2.2.2.1
  have hr1 := h.2.2.2.2.2.1
  have hrn := h.1.2.1.2.1
  have e := (hB.2.2.2.1 r hr0 hr1).2.1
  unfold f_X8_agentsIn f_X8_has
  rw [hB.2.1]
  simp (maxSteps := 4000000) (disch := omega) only [I_lits, nz, nc, if_pos, if_neg, if_true, if_false, Option.bind_some, true_and, and_true, and_self, or_true, true_or, or_false, false_or, not_true_eq_false, not_false_eq_true, false_and, and_false, Bool.false_eq_true, decide_true, decide_false, eq_self, i01, hr0, hr1, e]
theorem c_agentKind (h : SH B N f s r) (hB : BkC B σ 64) {i : Int} (i0 : 0 ≤ i) (i1 : i < Bra B r) : f_X8_agentKind (I r) (I i) σ = some (I (Brk B (12 * r + i))) := by
  have hr0 := h.2.2.2.2.1
  have hr1 := h.2.2.2.2.2.1
  have hrn := h.1.2.1.2.1
  have hra := h.1.2.1.2.2.2.1 r hr0 hr1
  have e := hB.2.2.2.2.1 r i hr0 hr1 i0 i1
  unfold f_X8_agentKind f_X11_isInside
  rw [c_agentsIn h hB]
  simp (maxSteps := 4000000) (disch := omega) only [I_lits, nz, nc, if_pos, if_neg, if_true, if_false, Option.bind_some, true_and, and_true, and_self, or_true, true_or, or_false, false_or, not_true_eq_false, not_false_eq_true, false_and, and_false, Bool.false_eq_true, decide_true, decide_false, eq_self, i01, i0, i1]
  rw [show r * 12 + i = 12 * r + i by omega, e]
/-- frames while rewiring -/
def FrW (σ g : St) : Prop := g.2 = σ.2 ∧ ∀ c, c ≠ 34 → c ≠ 79 → c ≠ 80 → g.1 c = σ.1 c
theorem frw_B {g : St} (hB : BkC B σ 64) (h : FrW σ g) : BkC B g 64 := bkc_fr hB (fun c _ _ => h.2 c (by omega) (by omega) (by omega)) (by rw [h.1])
def PrtA (q t : Int) : Prop := t < q
def PrtD (B : BkT) (N : NtT) (f s r : Int) (na : Int → Int) (A : Int → Prop) (x : Int) : Prop := ∃ t k y, A t ∧ Tm B N f s r t ∧ Way (Brt B r) (onn N f s) (Sn B N f s r) t k y ∧ (x = Et N f s na t ∨ x = Et N f s na y)
theorem prtd_iff {A A' : Int → Prop} (e : ∀ t, Tm B N f s r t → (A t ↔ A' t)) (z : Int) : PrtD B N f s r na A z ↔ PrtD B N f s r na A' z := by
  constructor
  · rintro ⟨t, k, y, a, b, c⟩; exact ⟨t, k, y, (e t b).mp a, b, c⟩
  · rintro ⟨t, k, y, a, b, c⟩; exact ⟨t, k, y, (e t b).mpr a, b, c⟩
theorem prtd_add {A : Int → Prop} {t y : Int} {k : Nat} (ht : Tm B N f s r t) (hw : Way (Brt B r) (onn N f s) (Sn B N f s r) t k y) (x : Int) : PrtD B N f s r na (fun x => A x ∨ x = t) x ↔ PrtD B N f s r na A x ∨ x = Et N f s na t ∨ x = Et N f s na y := by
  constructor
  · rintro ⟨t', k', y', a | a, b, c, d⟩
    · exact Or.inl ⟨t', k', y', a, b, c, d⟩
    · subst a
      have := way_uniq hw c
      rw [← this.2] at d
      exact Or.inr d
  · rintro (⟨t', k', y', a, b, c, d⟩ | q)
    · exact ⟨t', k', y', Or.inl a, b, c, d⟩
    · exact ⟨t, k, y, Or.inr rfl, ht, hw, q⟩
theorem wrc_iff {g : St} {D D' : Int → Prop} (h : WrC B N f s r na N' g D) (e : ∀ x, D' x → D x) : WrC B N f s r na N' g D' := fun x a b => h x a (by
  rcases b with q | q
  · exact Or.inl q
  · exact Or.inr (e x q))
def StC (B : BkT) (N : NtT) (f s r : Int) (na : Int → Int) (N' : NtT) (σ g : St) (A : Int → Prop) : Prop := FrW σ g ∧ PsC B r g (Mkd B N f s r A) ∧ WrC B N f s r na N' g (PrtD B N f s r na A)
theorem stc_iff {g : St} {A A' : Int → Prop} (h : StC B N f s r na N' σ g A) (e : ∀ t, Tm B N f s r t → (A t ↔ A' t)) : StC B N f s r na N' σ g A' := ⟨h.1, psc_iff h.2.1 (fun z _ _ => mkd_iff e z), wrc_iff h.2.2 (fun x q => (prtd_iff e x).mpr q)⟩
/-- one terminal: follow and join -/
theorem c_term (h : SH B N f s r) (hF : 10000 ≤ F) (hna : NaH B N f s r na) (hV : NetV B N') (hB : BkC B σ 64) (hO : OutC B N f s r σ) (hN : NumC B r na σ) {t : Int} (ht : Tm B N f s r t) {A : Int → Prop} {g : St} (hg : StC B N f s r na N' σ g A) : ∃ g1 g2 v, f_X7_follow F (I r) (I (encR t)) g = some (v, g1) ∧ f_X4_join (I (to8 (Et N f s na t))) v g1 = some g2 ∧ (∀ c, c ≠ 34 → g1.1 c = g.1 c) ∧ StC B N f s r na N' σ g2 (fun x => A x ∨ x = t) := by
  obtain ⟨hf, hp, hw⟩ := hg
  obtain ⟨k, y, k8, way⟩ := st_way h ht
  have hOg : OutC B N f s r g := fun t a b => by rw [hf.2 32 (by omega) (by omega) (by omega), hf.2 33 (by omega) (by omega) (by omega)]; exact hO t a b
  have hNg : NumC B r na g := fun i a b => by rw [hf.2 35 (by omega) (by omega) (by omega)]; exact hN i a b
  obtain ⟨g1, a1, a2, a3, a4⟩ := c_follow h hF (frw_B hB hf) hOg hNg hna k8 ht way hp
  have hw1 : WrC B N f s r na N' g1 (PrtD B N f s r na A) := fun x hx hd => by
    have := hw x hx hd
    unfold rdC at this ⊢
    rw [a3 79 (by omega), a3 80 (by omega)]; exact this
  obtain ⟨g2, b1, b2, b3, b4⟩ := c_joinE h hna hV ht way hw1
  refine ⟨g1, g2, _, a1, b1, a3, ⟨by rw [b2, a2, hf.1], fun c c1 c2 c3 => by rw [b3 c c2 c3, a3 c c1, hf.2 c c1 c2 c3]⟩, ?_, wrc_iff b4 (fun x q => (prtd_add ht way x).mp q)⟩
  have a4' : PsC B r g2 (fun z => Mkd B N f s r A z ∨ OnP (Brt B r) (onn N f s) t k z) := by
    unfold PsC at a4 ⊢
    rw [b3 34 (by omega) (by omega)]; exact a4
  exact psc_iff a4' (fun z _ _ => (mkd_add ht way z).symm)
theorem c_wireAg_p (h : SH B N f s r) (hF : 10000 ≤ F) (hna : NaH B N f s r na) (hV : NetV B N') (hB : BkC B σ 64) (hO : OutC B N f s r σ) (hN : NumC B r na σ) {i : Int} (i0 : 0 ≤ i) (i1 : i < Bra B r) : ∀ (n : Nat) (p : Int) (g : St), 0 ≤ p → p ≤ Bpt B (Brk B (12 * r + i)) → Bpt B (Brk B (12 * r + i)) - p < n → StC B N f s r na N' σ g (PrtA (5 * i + p)) → ∃ g', f_X7_wireAgents_L41 F (I r) (I i) (I (Bpt B (Brk B (12 * r + i)))) n (I p) g = some g' ∧ StC B N f s r na N' σ g' (PrtA (5 * (i + 1))) := by
  have hr0 := h.2.2.2.2.1
  have hr1 := h.2.2.2.2.2.1
  have hra := h.1.2.1.2.2.2.1 r hr0 hr1
  have hrk := h.1.2.1.2.2.2.2.1 r i hr0 hr1 i0 i1
  have hpt := h.1.1.2.2.1 _ hrk.1 hrk.2
  intro n
  induction n with
  | zero => intro p g h0 h1 h2; omega
  | succ n ih =>
    intro p g h0 h1 h2 hg
    rw [f_X7_wireAgents_L41]
    by_cases hp : p = Bpt B (Brk B (12 * r + i))
    · rw [if_neg (by rw [hp]; exact Int32.lt_irrefl)]
      refine ⟨g, rfl, stc_iff hg (fun t ht => ⟨fun q => ?_, fun q => ?_⟩)⟩
      · unfold PrtA at q ⊢; omega
      · unfold PrtA at q ⊢
        by_cases h6 : t < 60
        · have hb := pt_b h ht.1 h6
          by_cases e : t / 5 = i
          · rw [e] at hb; omega
          · omega
        · omega
    · have hR : RLiv B r (5 * i + p) := Or.inl ⟨by omega, by omega, by omega, by
        rw [show (5 * i + p) / 5 = i by omega, show (5 * i + p) % 5 = p by omega]; omega⟩
      have ht : Tm B N f s r (5 * i + p) := ⟨hR, fun q => by have := q.2.1; omega⟩
      have hnb := hna.1 i i0 i1
      obtain ⟨g1, g2, v, a1, a2, a3, a4⟩ := c_term h hF hna hV hB hO hN ht hg
      rw [encR_p (by omega), show 8 * ((5 * i + p) / 5) + (5 * i + p) % 5 = 8 * i + p by omega] at a1
      have e35 : g1.1 35 i.toNat = I (na i) := by rw [a3 35 (by omega), hg.1.2 35 (by omega) (by omega) (by omega)]; exact hN i i0 i1
      have eEt : to8 (Et N f s na (5 * i + p)) = 8 * na i + p := by
        unfold Et
        rw [if_pos (by omega), show (5 * i + p) / 5 = i by omega, to8_p (by omega)]; omega
      rw [eEt] at a2
      unfold f_X11_portCode
      simp (maxSteps := 4000000) (disch := omega) only [I_lits, nz, nc, if_pos, if_neg, if_true, if_false, Option.bind_some, true_and, and_true, and_self, or_true, true_or, or_false, false_or, not_true_eq_false, not_false_eq_true, false_and, and_false, Bool.false_eq_true, decide_true, decide_false, eq_self, a1, e35, a2]
      obtain ⟨g', b1, b2⟩ := ih (p + 1) g2 (by omega) (by omega) (by omega) (stc_iff a4 (fun t _ => by unfold PrtA; omega))
      exact ⟨g', b1, b2⟩
theorem c_wireAg (h : SH B N f s r) (hF : 10000 ≤ F) (hna : NaH B N f s r na) (hV : NetV B N') (hB : BkC B σ 64) (hO : OutC B N f s r σ) (hN : NumC B r na σ) : ∀ (n : Nat) (i : Int) (g : St), 0 ≤ i → i ≤ Bra B r → Bra B r - i < n → StC B N f s r na N' σ g (PrtA (5 * i)) → ∃ g', f_X7_wireAgents_L2 F (I r) n (I i) g = some g' ∧ StC B N f s r na N' σ g' (PrtA 60) := by
  have hr0 := h.2.2.2.2.1
  have hr1 := h.2.2.2.2.2.1
  have hra := h.1.2.1.2.2.2.1 r hr0 hr1
  have h16 := h.1.1.2.1
  intro n
  induction n with
  | zero => intro i g h0 h1 h2; omega
  | succ n ih =>
    intro i g h0 h1 h2 hg
    have hBg := frw_B hB hg.1
    rw [f_X7_wireAgents_L2, c_agentsIn h hBg, Option.bind_some]
    by_cases hi : i = Bra B r
    · rw [if_neg (fun q => by rw [hi] at q; exact Int32.lt_irrefl q.1)]
      refine ⟨g, rfl, stc_iff hg (fun t ht => ⟨fun q => ?_, fun q => ?_⟩)⟩
      · unfold PrtA at q ⊢; omega
      · unfold PrtA at q ⊢
        have := pt_b h ht.1 q
        omega
    · have hrk := h.1.2.1.2.2.2.2.1 r i hr0 hr1 h0 (by omega)
      have hpt := h.1.1.2.2.1 _ hrk.1 hrk.2
      have hpo := c_portsOf hBg h.1.1 (k := Brk B (12 * r + i)) (by omega) (by omega)
      rw [if_pos ⟨hrk.1, hrk.2⟩] at hpo
      obtain ⟨g1, a1, a2⟩ := c_wireAg_p h hF hna hV hB hO hN h0 (show i < Bra B r by omega) F 0 g (by omega) (by omega) (by omega) (by rw [Int.add_zero]; exact hg)
      simp (maxSteps := 4000000) (disch := omega) only [I_lits, nz, nc, if_pos, if_neg, if_true, if_false, Option.bind_some, true_and, and_true, and_self, or_true, true_or, or_false, false_or, not_true_eq_false, not_false_eq_true, false_and, and_false, Bool.false_eq_true, decide_true, decide_false, eq_self, c_agentKind h hBg h0 (show i < Bra B r by omega), hpo, a1]
      exact ih (i + 1) g1 (by omega) (by omega) (by omega) a2
/-- a terminal that is joined already -/
def Cov (B : BkT) (N : NtT) (f s r : Int) (A : Int → Prop) (t : Int) : Prop := A t ∨ ∃ t' k, A t' ∧ Tm B N f s r t' ∧ Way (Brt B r) (onn N f s) (Sn B N f s r) t' k t
theorem c_wireOut (h : SH B N f s r) (hF : 10000 ≤ F) (hna : NaH B N f s r na) (hV : NetV B N') (hB : BkC B σ 64) (hO : OutC B N f s r σ) (hN : NumC B r na σ) : ∀ (n : Nat) (v : Int) (A : Int → Prop) (g : St), 0 ≤ v → v ≤ 8 → 8 - v < n → StC B N f s r na N' σ g A → (∀ t, Tm B N f s r t → t < 60 ∨ sc t < v → Cov B N f s r A t) → ∃ g' A', f_X7_wireOuter_L2 F (I r) n (I v) g = some g' ∧ StC B N f s r na N' σ g' A' ∧ ∀ t, Tm B N f s r t → Cov B N f s r A' t := by
  intro n
  induction n with
  | zero => intro v A g h0 h1 h2; omega
  | succ n ih =>
    intro v A g h0 h1 h2 hg hA
    rw [f_X7_wireOuter_L2]
    by_cases hv : v = 8
    · rw [if_neg (by rw [hv]; exact Int32.lt_irrefl)]
      refine ⟨g, A, rfl, hg, fun t ht => hA t ht ?_⟩
      by_cases h6 : t < 60
      · exact Or.inl h6
      · have := sc_b h ht.1 (by omega)
        right; omega
    · have e32 : g.1 32 = σ.1 32 := hg.1.2 32 (by omega) (by omega) (by omega)
      have e33 : g.1 33 = σ.1 33 := hg.1.2 33 (by omega) (by omega) (by omega)
      have skip : (∀ t, Tm B N f s r t → 60 ≤ t → sc t = v → Cov B N f s r A t) → ∃ g' A', f_X7_wireOuter_L2 F (I r) n (I (v + 1)) g = some g' ∧ StC B N f s r na N' σ g' A' ∧ ∀ t, Tm B N f s r t → Cov B N f s r A' t := by
        intro hs
        refine ih (v + 1) A g (by omega) (by omega) (by omega) hg (fun t ht q => ?_)
        by_cases h6 : t < 60
        · exact hA t ht (Or.inl h6)
        · by_cases e : sc t = v
          · exact hs t ht (by omega) e
          · exact hA t ht (Or.inr (by omega))
      have eqv : ∀ t, RLiv B r t → 60 ≤ t → sc t = v → t = 61 + 5 * (v / 4) + v % 4 := fun t a b c => by
        have := sc_nd h a b
        rw [c] at this; exact this.symm
      by_cases hR : RLiv B r (61 + 5 * (v / 4) + v % 4)
      · have hsc : sc (61 + 5 * (v / 4) + v % 4) = v := by unfold sc; omega
        have h6 : 60 ≤ 61 + 5 * (v / 4) + v % 4 := by omega
        have hps := hg.2.1.1 _ hR h6
        have hOu := hO _ hR h6
        rw [hsc] at hps hOu
        by_cases hM : Mkd B N f s r A (61 + 5 * (v / 4) + v % 4)
        · simp (maxSteps := 4000000) (disch := omega) only [I_lits, nz, nc, if_pos, if_neg, if_true, if_false, Option.bind_some, true_and, and_true, and_self, or_true, true_or, or_false, false_or, not_true_eq_false, not_false_eq_true, false_and, and_false, Bool.false_eq_true, decide_true, decide_false, eq_self, hps.1 hM, i01]
          refine skip (fun t ht a b => ?_)
          have et := eqv t ht.1 a b
          rw [← et] at hM
          obtain ⟨t', k', y', m1, m2, m3, m4⟩ := hM
          rcases itr_S_iff (st_ph h) m3 m4 ht.2 with q | q
          · rw [q]; exact Or.inl m1
          · exact Or.inr ⟨t', k', m1, m2, by rw [q]; exact m3⟩
        · by_cases hS : Sn B N f s r (61 + 5 * (v / 4) + v % 4)
          · have hos := os_b h hS
            have hsb := sc_b h hos.1 hos.2.1
            simp (maxSteps := 4000000) (disch := omega) only [I_lits, nz, nc, if_pos, if_neg, if_true, if_false, Option.bind_some, true_and, and_true, and_self, or_true, true_or, or_false, false_or, not_true_eq_false, not_false_eq_true, false_and, and_false, Bool.false_eq_true, decide_true, decide_false, eq_self, hps.2 hM, e33, hOu.2.1 hS]
            refine skip (fun t ht a b => ?_)
            have et := eqv t ht.1 a b
            rw [← et] at hS
            exact absurd hS ht.2
          · have ht : Tm B N f s r (61 + 5 * (v / 4) + v % 4) := ⟨hR, hS⟩
            obtain ⟨g1, g2, w, a1, a2, a3, a4⟩ := c_term h hF hna hV hB hO hN ht hg
            rw [encR_s h6, hsc] at a1
            have eEt : Et N f s na (61 + 5 * (v / 4) + v % 4) = Nw N (ps f s (61 + 5 * (v / 4) + v % 4 - 60)) := if_neg (by omega)
            rw [eEt] at a2
            unfold f_X11_endCode
            simp (maxSteps := 4000000) (disch := omega) only [I_lits, nz, nc, if_pos, if_neg, if_true, if_false, Option.bind_some, true_and, and_true, and_self, or_true, true_or, or_false, false_or, not_true_eq_false, not_false_eq_true, false_and, and_false, Bool.false_eq_true, decide_true, decide_false, eq_self, hps.2 hM, e33, hOu.2.2 hS, e32, hOu.1, a1, a2]
            refine ih (v + 1) _ g2 (by omega) (by omega) (by omega) a4 (fun t ht' q => ?_)
            by_cases e : t = 61 + 5 * (v / 4) + v % 4
            · exact Or.inl (Or.inr e)
            · have := hA t ht' (by
                by_cases h6' : t < 60
                · exact Or.inl h6'
                · right
                  rcases q with q | q
                  · omega
                  · by_cases e' : sc t = v
                    · exact absurd (eqv t ht'.1 (by omega) e') e
                    · omega)
              rcases this with w1 | ⟨t', k', w1, w2, w3⟩
              · exact Or.inl (Or.inl w1)
              · exact Or.inr ⟨t', k', Or.inl w1, w2, w3⟩
      · have hps := hg.2.1.2 v h0 (by omega) hR
        simp (maxSteps := 4000000) (disch := omega) only [I_lits, nz, nc, if_pos, if_neg, if_true, if_false, Option.bind_some, true_and, and_true, and_self, or_true, true_or, or_false, false_or, not_true_eq_false, not_false_eq_true, false_and, and_false, Bool.false_eq_true, decide_true, decide_false, eq_self, hps, i01]
        refine skip (fun t ht a b => ?_)
        rw [eqv t ht.1 a b] at ht
        exact absurd ht.1 hR
end WIR
