/-! a step: what it makes of a net -/
def ag (f s o : Int) : Int := if o < 5 then f else s
def ps (f s o : Int) : Int := 5 * ag f s o + o % 5
def isO (N : NtT) (f s o : Int) : Prop := 0 ≤ Nw N (ps f s o) ∧ (Nw N (ps f s o) / 5 = f ∨ Nw N (ps f s o) / 5 = s)
def oso (N : NtT) (f s o : Int) : Int := (if Nw N (ps f s o) / 5 = f then 0 else 5) + Nw N (ps f s o) % 5
def Sn (B : BkT) (N : NtT) (f s r t : Int) : Prop := RLiv B r t ∧ 60 ≤ t ∧ isO N f s (t - 60)
def onn (N : NtT) (f s t : Int) : Int := 60 + oso N f s (t - 60)
def SH (B : BkT) (N : NtT) (f s r : Int) : Prop := (KdV B ∧ RuV B ∧ NetV B N) ∧ (0 ≤ f ∧ f < 400 ∧ 0 ≤ s ∧ s < 400 ∧ f ≠ s ∧ 0 ≤ Nk N f ∧ 0 ≤ Nk N s) ∧ Nw N (5 * f) = 5 * s ∧ Nw N (5 * s) = 5 * f ∧ 0 ≤ r ∧ r < Brn B ∧ Brs B (2 * r) = Nk N f ∧ Brs B (2 * r + 1) = Nk N s
def Tm (B : BkT) (N : NtT) (f s r t : Int) : Prop := RLiv B r t ∧ ¬ Sn B N f s r t
def Et (N : NtT) (f s : Int) (na : Int → Int) (t : Int) : Int := if t < 60 then 5 * na (t / 5) + t % 5 else Nw N (ps f s (t - 60))
def NaH (B : BkT) (N : NtT) (f s r : Int) (na : Int → Int) : Prop := (∀ i, 0 ≤ i → i < Bra B r → 0 ≤ na i ∧ na i < 400 ∧ (Nk N (na i) < 0 ∨ na i = f ∨ na i = s)) ∧ ∀ i j, 0 ≤ i → i < j → j < Bra B r → na i ≠ na j
section STP
variable {B : BkT} {N : NtT} {f s r : Int} {na : Int → Int}
theorem sl_b (h : SH B N f s r) {t : Int} (hR : RLiv B r t) (ht : 60 ≤ t) : t < 70 ∧ 1 ≤ (t - 60) % 5 ∧ (t - 60) % 5 < Bpt B (Nk N (ag f s (t - 60))) ∧ (t - 60) % 5 < 5 := by
  have : t < 70 ∧ 1 ≤ (t - 60) % 5 ∧ (t - 60) % 5 < Bpt B (Brs B (2 * r + (t - 60) / 5)) := by
    rcases hR with q | q
    · omega
    · exact q.2
  refine ⟨this.1, this.2.1, ?_, by omega⟩
  unfold ag
  by_cases h5 : t - 60 < 5
  · rw [if_pos h5, ← h.2.2.2.2.2.2.1]
    have := this.2.2
    rw [show 2 * r + (t - 60) / 5 = 2 * r by omega] at this
    exact this
  · rw [if_neg h5, ← h.2.2.2.2.2.2.2]
    have := this.2.2
    rw [show 2 * r + (t - 60) / 5 = 2 * r + 1 by omega] at this
    exact this
theorem ag_b (h : SH B N f s r) (o : Int) : 0 ≤ ag f s o ∧ ag f s o < 400 ∧ 0 ≤ Nk N (ag f s o) := by
  unfold ag
  obtain ⟨_, ⟨a1, a2, a3, a4, a5, a6, a7⟩, _⟩ := h
  split
  · exact ⟨a1, a2, a6⟩
  · exact ⟨a3, a4, a7⟩
theorem ps_l (h : SH B N f s r) {t : Int} (hR : RLiv B r t) (ht : 60 ≤ t) : NLiv B N (ps f s (t - 60)) := by
  have h1 := sl_b h hR ht
  have h2 := ag_b h (t - 60)
  exact liv_port h2.1 h2.2.1 h2.2.2 (by omega) h1.2.2.1 h1.2.2.2
theorem sl_mk (h : SH B N f s r) {o : Int} (h0 : 0 ≤ o) (h1 : o < 10) (h2 : 1 ≤ o % 5) (h3 : o % 5 < Bpt B (Nk N (ag f s o))) : RLiv B r (60 + o) := by
  refine Or.inr ⟨by omega, by omega, ?_, ?_⟩
  · rw [show 60 + o - 60 = o by omega]; exact h2
  · rw [show 60 + o - 60 = o by omega]
    unfold ag at h3
    by_cases h5 : o < 5
    · rw [if_pos h5, ← h.2.2.2.2.2.2.1] at h3
      rw [show 2 * r + o / 5 = 2 * r by omega]; exact h3
    · rw [if_neg h5, ← h.2.2.2.2.2.2.2] at h3
      rw [show 2 * r + o / 5 = 2 * r + 1 by omega]; exact h3
/-- where an own slot leads to -/
theorem os_b (h : SH B N f s r) {t : Int} (hS : Sn B N f s r t) : RLiv B r (onn N f s t) ∧ 60 ≤ onn N f s t ∧ ps f s (onn N f s t - 60) = Nw N (ps f s (t - 60)) := by
  obtain ⟨hR, ht, h0, h1⟩ := hS
  have hL := ps_l h hR ht
  have hb := sl_b h hR ht
  obtain ⟨⟨hK, hRu, hV⟩, ⟨a1, a2, a3, a4, a5, a6, a7⟩, w1, w2, r0, r1, s1, s2⟩ := id h
  have hw := hV.2.2.2 _ hL
  have hag := liv_ag hw.1 h0
  -- it is no head
  have hne : Nw N (ps f s (t - 60)) % 5 ≠ 0 := by
    intro e
    have hps : ps f s (t - 60) % 5 = (t - 60) % 5 := by unfold ps; omega
    rcases h1 with q | q
    · have : Nw N (ps f s (t - 60)) = 5 * f := by omega
      have := hw.2.1
      rw [‹Nw N (ps f s (t - 60)) = 5 * f›, w1] at this
      omega
    · have : Nw N (ps f s (t - 60)) = 5 * s := by omega
      have := hw.2.1
      rw [‹Nw N (ps f s (t - 60)) = 5 * s›, w2] at this
      omega
  unfold onn oso
  by_cases hf : Nw N (ps f s (t - 60)) / 5 = f
  · rw [if_pos hf]
    refine ⟨?_, by omega, ?_⟩
    · refine sl_mk h (by omega) (by omega) (by omega) ?_
      unfold ag
      rw [if_pos (by omega), show (0 + Nw N (ps f s (t - 60)) % 5) % 5 = Nw N (ps f s (t - 60)) % 5 by omega]
      have hz := hag.2.2
      rw [hf] at hz
      exact hz
    · rw [show 60 + (0 + Nw N (ps f s (t - 60)) % 5) - 60 = Nw N (ps f s (t - 60)) % 5 by omega]
      show 5 * ag f s (Nw N (ps f s (t - 60)) % 5) + Nw N (ps f s (t - 60)) % 5 % 5 = _
      unfold ag
      rw [if_pos (by omega)]
      omega
  · have hs : Nw N (ps f s (t - 60)) / 5 = s := by
      rcases h1 with q | q
      · exact absurd q hf
      · exact q
    rw [if_neg hf]
    refine ⟨?_, by omega, ?_⟩
    · refine sl_mk h (by omega) (by omega) (by omega) ?_
      unfold ag
      rw [if_neg (by omega), show (5 + Nw N (ps f s (t - 60)) % 5) % 5 = Nw N (ps f s (t - 60)) % 5 by omega]
      have hz := hag.2.2
      rw [hs] at hz
      exact hz
    · rw [show 60 + (5 + Nw N (ps f s (t - 60)) % 5) - 60 = 5 + Nw N (ps f s (t - 60)) % 5 by omega]
      show 5 * ag f s (5 + Nw N (ps f s (t - 60)) % 5) + (5 + Nw N (ps f s (t - 60)) % 5) % 5 = _
      unfold ag
      rw [if_neg (by omega)]
      omega
theorem ps_inj (h : SH B N f s r) {t t' : Int} (hR : RLiv B r t) (ht : 60 ≤ t) (hR' : RLiv B r t') (ht' : 60 ≤ t') (e : ps f s (t - 60) = ps f s (t' - 60)) : t = t' := by
  have h1 := sl_b h hR ht
  have h2 := sl_b h hR' ht'
  have hfs := h.2.1.2.2.2.2.1
  unfold ps ag at e
  by_cases a : t - 60 < 5
  · by_cases b : t' - 60 < 5
    · rw [if_pos a, if_pos b] at e; omega
    · rw [if_pos a, if_neg b] at e; omega
  · by_cases b : t' - 60 < 5
    · rw [if_neg a, if_pos b] at e; omega
    · rw [if_neg a, if_neg b] at e; omega
theorem ps_on (h : SH B N f s r) {t : Int} (hR : RLiv B r t) (ht : 60 ≤ t) : ps f s (t - 60) / 5 = f ∨ ps f s (t - 60) / 5 = s := by
  have h1 := sl_b h hR ht
  unfold ps ag
  by_cases a : t - 60 < 5
  · rw [if_pos a]; left; omega
  · rw [if_neg a]; right; omega
theorem ps_0 (h : SH B N f s r) (t : Int) : 0 ≤ ps f s (t - 60) := by
  have := ag_b h (t - 60)
  unfold ps; omega
theorem st_ph (h : SH B N f s r) : PH (Brt B r) (onn N f s) (Sn B N f s r) (RLiv B r) := by
  obtain ⟨⟨hK, hRu, hV⟩, ⟨a1, a2, a3, a4, a5, a6, a7⟩, w1, w2, r0, r1, s1, s2⟩ := id h
  refine ⟨fun x hx => hRu.2.2.2.2.2 r x r0 r1 hx, fun x hx => ?_⟩
  have hb := os_b h hx
  have hL := ps_l h hx.1 hx.2.1
  have hw := hV.2.2.2 _ hL
  have hS' : Sn B N f s r (onn N f s x) := by
    refine ⟨hb.1, hb.2.1, ?_⟩
    unfold isO
    rw [hb.2.2, hw.2.1]
    exact ⟨ps_0 h x, ps_on h hx.1 hx.2.1⟩
  have hb' := os_b h hS'
  refine ⟨hx.1, hS', ?_, ?_⟩
  · refine ps_inj h hb'.1 hb'.2.1 hx.1 hx.2.1 ?_
    rw [hb'.2.2, hb.2.2, hw.2.1]
  · intro e
    have := hb.2.2
    rw [e] at this
    exact hw.2.2 this.symm
theorem st_cod (h : SH B N f s r) : Cod (onn N f s) (Sn B N f s r) (fun t => 4 * ((t - 60) / 5) + (t - 60) % 5 - 1) 8 := by
  refine ⟨fun x hx => ?_, fun x y hx hy e => Or.inl ?_⟩
  · have := sl_b h hx.1 hx.2.1
    have := hx.2.1
    show 0 ≤ 4 * ((x - 60) / 5) + (x - 60) % 5 - 1 ∧ 4 * ((x - 60) / 5) + (x - 60) % 5 - 1 < ((8 : Nat) : Int)
    omega
  · have h1 := sl_b h hx.1 hx.2.1
    have h2 := sl_b h hy.1 hy.2.1
    have h3 := hx.2.1
    have h4 := hy.2.1
    have e' : 4 * ((x - 60) / 5) + (x - 60) % 5 - 1 = 4 * ((y - 60) / 5) + (y - 60) % 5 - 1 := e
    omega
theorem st_way (h : SH B N f s r) {t : Int} (ht : Tm B N f s r t) : ∃ k y, k ≤ 8 ∧ Way (Brt B r) (onn N f s) (Sn B N f s r) t k y := by
  obtain ⟨k, k1, k2, k3⟩ := itr_term (st_ph h) (st_cod h) ht.1 ht.2
  exact ⟨k, _, k1, k2, k3, rfl⟩
theorem way_tm (h : SH B N f s r) {t y : Int} {k : Nat} (ht : Tm B N f s r t) (hw : Way (Brt B r) (onn N f s) (Sn B N f s r) t k y) : Tm B N f s r y ∧ Way (Brt B r) (onn N f s) (Sn B N f s r) y k t :=
  have := way_rev (st_ph h) ht.1 ht.2 hw
  ⟨⟨this.1, hw.2.1⟩, this.2⟩
theorem tm_out (h : SH B N f s r) {t : Int} (ht : Tm B N f s r t) (h6 : 60 ≤ t) : Nw N (ps f s (t - 60)) < 0 ∨ (0 ≤ Nw N (ps f s (t - 60)) ∧ Nw N (ps f s (t - 60)) / 5 ≠ f ∧ Nw N (ps f s (t - 60)) / 5 ≠ s) := by
  by_cases h0 : Nw N (ps f s (t - 60)) < 0
  · exact Or.inl h0
  · right
    refine ⟨by omega, fun e => ht.2 ⟨ht.1, h6, by omega, Or.inl e⟩, fun e => ht.2 ⟨ht.1, h6, by omega, Or.inr e⟩⟩
theorem pt_b (h : SH B N f s r) {t : Int} (ht : RLiv B r t) (h6 : t < 60) : 0 ≤ t ∧ t / 5 < Bra B r ∧ t % 5 < Bpt B (Brk B (12 * r + t / 5)) := by
  rcases ht with q | q
  · exact ⟨q.1, q.2.2⟩
  · omega
theorem Et_inj (h : SH B N f s r) (hn : NaH B N f s r na) {t t' : Int} (ht : Tm B N f s r t) (ht' : Tm B N f s r t') (e : Et N f s na t = Et N f s na t') : t = t' := by
  obtain ⟨⟨hK, hRu, hV⟩, ⟨a1, a2, a3, a4, a5, a6, a7⟩, w1, w2, r0, r1, s1, s2⟩ := id h
  have mix : ∀ t t', Tm B N f s r t → Tm B N f s r t' → t < 60 → ¬ t' < 60 → Et N f s na t = Et N f s na t' → False := by
    intro t t' ht ht' l l' e
    unfold Et at e
    rw [if_pos l, if_neg l'] at e
    have hp := pt_b h ht.1 l
    have hna := hn.1 (t / 5) (by omega) hp.2.1
    have hout := tm_out h ht' (by omega)
    have hL := (hV.2.2.2 _ (ps_l h ht'.1 (by omega))).1
    rcases hout with q | q
    · omega
    · have hag := liv_ag hL q.1
      have e5 : Nw N (ps f s (t' - 60)) / 5 = na (t / 5) := by omega
      rw [e5] at q hag
      rcases hna.2.2 with w | w | w
      · omega
      · exact q.2.1 w
      · exact q.2.2 w
  by_cases l : t < 60
  · by_cases l' : t' < 60
    · unfold Et at e
      rw [if_pos l, if_pos l'] at e
      have hp := pt_b h ht.1 l
      have hp' := pt_b h ht'.1 l'
      have e5 : na (t / 5) = na (t' / 5) := by omega
      rcases Int.lt_trichotomy (t / 5) (t' / 5) with q | q | q
      · exact absurd e5 (hn.2 _ _ (by omega) q hp'.2.1)
      · omega
      · exact absurd e5.symm (hn.2 _ _ (by omega) q hp.2.1)
    · exact absurd e (fun e => mix t t' ht ht' l l' e)
  · by_cases l' : t' < 60
    · exact absurd e.symm (fun e => mix t' t ht' ht l' l e)
    · unfold Et at e
      rw [if_neg l, if_neg l'] at e
      have hL := ps_l h ht.1 (by omega)
      have hL' := ps_l h ht'.1 (by omega)
      refine ps_inj h ht.1 (by omega) ht'.1 (by omega) ?_
      rw [← (hV.2.2.2 _ hL).2.1, ← (hV.2.2.2 _ hL').2.1, e]
/-- the wires after the step -/
noncomputable def nw' (B : BkT) (N : NtT) (f s r : Int) (na : Int → Int) (x : Int) : Int :=
  @ite _ (∃ t k y, Tm B N f s r t ∧ Way (Brt B r) (onn N f s) (Sn B N f s r) t k y ∧ Et N f s na t = x) (Classical.propDecidable _)
    (@dite _ (∃ z, ∃ t k y, Tm B N f s r t ∧ Way (Brt B r) (onn N f s) (Sn B N f s r) t k y ∧ Et N f s na t = x ∧ Et N f s na y = z) (Classical.propDecidable _) (fun h => Classical.choose h) (fun _ => 0)) (Nw N x)
theorem nw_E (h : SH B N f s r) (hn : NaH B N f s r na) {t y : Int} {k : Nat} (ht : Tm B N f s r t) (hw : Way (Brt B r) (onn N f s) (Sn B N f s r) t k y) : nw' B N f s r na (Et N f s na t) = Et N f s na y := by
  unfold nw'
  rw [if_pos ⟨t, k, y, ht, hw, rfl⟩]
  have hex : ∃ z, ∃ t' k y, Tm B N f s r t' ∧ Way (Brt B r) (onn N f s) (Sn B N f s r) t' k y ∧ Et N f s na t' = Et N f s na t ∧ Et N f s na y = z := ⟨_, t, k, y, ht, hw, rfl, rfl⟩
  rw [dif_pos hex]
  obtain ⟨t', k', y', h1, h2, h3, h4⟩ := Classical.choose_spec hex
  have := Et_inj h hn h1 ht h3
  subst this
  rw [← h4, (way_uniq hw h2).2]
theorem nw_o (h : SH B N f s r) {x : Int} (hx : ∀ t, Tm B N f s r t → Et N f s na t ≠ x) : nw' B N f s r na x = Nw N x := by
  unfold nw'
  exact if_neg (fun ⟨t, k, y, h1, h2, h3⟩ => hx t h1 h3)
/-- the agents after the step -/
def KnH (B : BkT) (N : NtT) (f s r : Int) (na K' : Int → Int) : Prop := (∀ i, 0 ≤ i → i < Bra B r → K' (na i) = Brk B (12 * r + i)) ∧ (∀ n, 0 ≤ n → n < 400 → n ≠ f → n ≠ s → 0 ≤ Nk N n → K' n = Nk N n) ∧ ∀ n, 0 ≤ n → n < 400 → (∀ i, 0 ≤ i → i < Bra B r → n ≠ na i) → (n = f ∨ n = s ∨ Nk N n < 0) → K' n = -1
theorem st_net (h : SH B N f s r) (hn : NaH B N f s r na) {K' : Int → Int} (hk : KnH B N f s r na K') (g : Int32) : NetV B (K', nw' B N f s r na, Ne N, g) := by
  obtain ⟨⟨hK, hRu, hV⟩, ⟨a1, a2, a3, a4, a5, a6, a7⟩, w1, w2, r0, r1, s1, s2⟩ := id h
  have cas : ∀ n, 0 ≤ n → n < 400 → (∃ i, 0 ≤ i ∧ i < Bra B r ∧ n = na i) ∨ (n ≠ f ∧ n ≠ s ∧ 0 ≤ Nk N n ∧ K' n = Nk N n) ∨ K' n = -1 := by
    intro n n0 n1
    by_cases hi : ∃ i, 0 ≤ i ∧ i < Bra B r ∧ n = na i
    · exact Or.inl hi
    · right
      by_cases hb : n = f ∨ n = s ∨ Nk N n < 0
      · exact Or.inr (hk.2.2 n n0 n1 (fun i i0 i1 e => hi ⟨i, i0, i1, e⟩) hb)
      · have : n ≠ f ∧ n ≠ s ∧ 0 ≤ Nk N n := ⟨fun e => hb (Or.inl e), fun e => hb (Or.inr (Or.inl e)), by
          by_cases q : 0 ≤ Nk N n
          · exact q
          · exact absurd (Or.inr (Or.inr (by omega))) hb⟩
        exact Or.inl ⟨this.1, this.2.1, this.2.2, hk.2.1 n n0 n1 this.1 this.2.1 this.2.2⟩
  have Eliv : ∀ t, Tm B N f s r t → NLiv B (K', nw' B N f s r na, Ne N, g) (Et N f s na t) := by
    intro t ht
    unfold Et
    by_cases l : t < 60
    · rw [if_pos l]
      have hp := pt_b h ht.1 l
      have hna := hn.1 (t / 5) (by omega) hp.2.1
      have hki := hk.1 (t / 5) (by omega) hp.2.1
      have hrk := hRu.2.2.2.2.1 r (t / 5) r0 r1 (by omega) hp.2.1
      refine Or.inr ⟨by omega, by omega, ?_, ?_⟩
      · show 0 ≤ K' ((5 * na (t / 5) + t % 5) / 5)
        rw [show (5 * na (t / 5) + t % 5) / 5 = na (t / 5) by omega, hki]; exact hrk.1
      · show (5 * na (t / 5) + t % 5) % 5 < Bpt B (K' ((5 * na (t / 5) + t % 5) / 5))
        rw [show (5 * na (t / 5) + t % 5) / 5 = na (t / 5) by omega, show (5 * na (t / 5) + t % 5) % 5 = t % 5 by omega, hki]; exact hp.2.2
    · rw [if_neg l]
      have hL := (hV.2.2.2 _ (ps_l h ht.1 (by omega))).1
      rcases tm_out h ht (by omega) with q | q
      · rcases hL with w | w
        · exact Or.inl w
        · omega
      · have hag := liv_ag hL q.1
        have hkn := hk.2.1 (Nw N (ps f s (t - 60)) / 5) (by omega) (by omega) q.2.1 q.2.2 hag.2.1
        refine Or.inr ⟨q.1, hag.1, ?_, ?_⟩
        · show 0 ≤ K' (Nw N (ps f s (t - 60)) / 5)
          rw [hkn]; exact hag.2.1
        · show _ < Bpt B (K' (Nw N (ps f s (t - 60)) / 5))
          rw [hkn]; exact hag.2.2
  refine ⟨hV.1, hV.2.1, fun n n0 n1 => ?_, fun x hx => ?_⟩
  · show -1 ≤ K' n ∧ K' n < Bkn B
    have h00 := hK.1
    rcases cas n n0 n1 with ⟨i, i0, i1, rfl⟩ | ⟨_, _, q1, q2⟩ | q
    · rw [hk.1 i i0 i1]
      have := hRu.2.2.2.2.1 r i r0 r1 i0 i1
      omega
    · rw [q2]; exact hV.2.2.1 n n0 n1
    · rw [q]; omega
  · show NLiv B (K', nw' B N f s r na, Ne N, g) (nw' B N f s r na x) ∧ nw' B N f s r na (nw' B N f s r na x) = x ∧ nw' B N f s r na x ≠ x
    by_cases hE : ∃ t, Tm B N f s r t ∧ Et N f s na t = x
    · obtain ⟨t, ht, rfl⟩ := hE
      obtain ⟨k, y, _, hw⟩ := st_way h ht
      have hy := way_tm h ht hw
      rw [nw_E h hn ht hw]
      refine ⟨Eliv y hy.1, nw_E h hn hy.1 hy.2, fun e => ?_⟩
      have := Et_inj h hn hy.1 ht e
      subst this
      exact way_ne (st_ph h) ht.1 hw
    · have hEn : ∀ t, Tm B N f s r t → Et N f s na t ≠ x := fun t ht e => hE ⟨t, ht, e⟩
      rw [nw_o h hEn]
      -- x was there before, on neither agent
      have hxl : NLiv B N x ∧ (0 ≤ x → x / 5 ≠ f ∧ x / 5 ≠ s) := by
        rcases hx with q | ⟨q0, q1, q2, q3⟩
        · have q' : x ≤ -2 ∧ -2 - x < Ne N := q
          exact ⟨Or.inl q', fun q0 => by omega⟩
        · have q2' : 0 ≤ K' (x / 5) := q2
          have q3' : x % 5 < Bpt B (K' (x / 5)) := q3
          rcases cas (x / 5) (by omega) (by omega) with ⟨i, i0, i1, e⟩ | ⟨b1, b2, b3, b4⟩ | w
          · exfalso
            have hra := hRu.2.2.2.1 r r0 r1
            rw [e, hk.1 i i0 i1] at q3'
            have hrt : RLiv B r (5 * i + x % 5) := by
              refine Or.inl ⟨by omega, by omega, by omega, ?_⟩
              rw [show (5 * i + x % 5) / 5 = i by omega, show (5 * i + x % 5) % 5 = x % 5 by omega]
              exact q3'
            refine hEn (5 * i + x % 5) ⟨hrt, fun w => by have := w.2.1; omega⟩ ?_
            unfold Et
            rw [if_pos (by omega), show (5 * i + x % 5) / 5 = i by omega, ← e]
            omega
          · rw [b4] at q3'
            exact ⟨Or.inr ⟨q0, q1, b3, q3'⟩, fun _ => ⟨b1, b2⟩⟩
          · omega
      have hwx := hV.2.2.2 x hxl.1
      -- its other end is on neither agent
      have hno : 0 ≤ Nw N x → Nw N x / 5 ≠ f ∧ Nw N x / 5 ≠ s := by
        intro h0
        have hag := liv_ag hwx.1 h0
        have aux : ∀ (v o : Int), Nw N x / 5 = v → (v = f ∧ o = Nw N x % 5) ∨ (v = s ∧ o = 5 + Nw N x % 5) → False := by
          intro v o e1 e2
          by_cases hm : Nw N x % 5 = 0
          · have hx' := hwx.2.1
            rcases e2 with ⟨rfl, _⟩ | ⟨rfl, _⟩
            · rw [show Nw N x = 5 * v by omega, w1] at hx'
              exact (hxl.2 (by omega)).2 (by omega)
            · rw [show Nw N x = 5 * v by omega, w2] at hx'
              exact (hxl.2 (by omega)).1 (by omega)
          · have hag' : ag f s o = v ∧ o % 5 = Nw N x % 5 ∧ 0 ≤ o ∧ o < 10 := by
              unfold ag
              rcases e2 with ⟨rfl, rfl⟩ | ⟨rfl, rfl⟩
              · rw [if_pos (by omega)]; omega
              · rw [if_neg (by omega)]; omega
            have hrt : RLiv B r (60 + o) := sl_mk h hag'.2.2.1 hag'.2.2.2 (by omega) (by rw [hag'.1, hag'.2.1, ← e1]; exact hag.2.2)
            have hps : ps f s (60 + o - 60) = Nw N x := by
              rw [show 60 + o - 60 = o by omega]
              unfold ps
              rw [hag'.1, hag'.2.1]; omega
            refine hEn (60 + o) ⟨hrt, fun w => ?_⟩ ?_
            · have := w.2.2
              unfold isO at this
              rw [hps, hwx.2.1] at this
              have := hxl.2 this.1
              rcases ‹0 ≤ x ∧ (x / 5 = f ∨ x / 5 = s)›.2 with z | z
              · exact this.1 z
              · exact this.2 z
            · unfold Et
              rw [if_neg (by omega), hps, hwx.2.1]
        exact ⟨fun e => aux _ _ e (Or.inl ⟨rfl, rfl⟩), fun e => aux _ _ e (Or.inr ⟨rfl, rfl⟩)⟩
      refine ⟨?_, ?_, hwx.2.2⟩
      · rcases hwx.1 with q | ⟨q0, q1, q2, q3⟩
        · exact Or.inl q
        · have hne := hno q0
          have hkn := hk.2.1 (Nw N x / 5) (by omega) (by omega) hne.1 hne.2 q2
          refine Or.inr ⟨q0, q1, ?_, ?_⟩
          · show 0 ≤ K' (Nw N x / 5)
            rw [hkn]; exact q2
          · show _ < Bpt B (K' (Nw N x / 5))
            rw [hkn]; exact q3
      · rw [nw_o h (fun t ht e => ?_)]
        · exact hwx.2.1
        · unfold Et at e
          by_cases l : t < 60
          · rw [if_pos l] at e
            have hp := pt_b h ht.1 l
            have hna := hn.1 (t / 5) (by omega) hp.2.1
            have h0 : 0 ≤ Nw N x := by omega
            have hne := hno h0
            have hag := liv_ag hwx.1 h0
            have e5 : Nw N x / 5 = na (t / 5) := by omega
            rw [e5] at hne hag
            rcases hna.2.2 with w | w | w
            · omega
            · exact hne.1 w
            · exact hne.2 w
          · rw [if_neg l] at e
            have hL := ps_l h ht.1 (by omega)
            have : ps f s (t - 60) = x := by rw [← (hV.2.2.2 _ hL).2.1, e, hwx.2.1]
            have ho := ps_on h ht.1 (by omega)
            have h0 := ps_0 h t
            rw [this] at ho h0
            rcases ho with z | z
            · exact (hxl.2 h0).1 z
            · exact (hxl.2 h0).2 z
end STP
