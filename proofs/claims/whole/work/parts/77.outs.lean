/-! what lies outside is noted; new agents are put -/
def FrO (σ g : St) : Prop := g.2 = σ.2 ∧ ∀ c, c ≠ 32 → c ≠ 33 → c ≠ 34 → g.1 c = σ.1 c
section OUS
variable {B : BkT} {N N' : NtT} {f s r : Int} {na : Int → Int} {σ τ : St} {F : Nat}
theorem c_passAll (hF : 10000 ≤ F) : ∃ g, f_X7_passAll F σ = some g ∧ g.2 = σ.2 ∧ (∀ c, c ≠ 34 → g.1 c = σ.1 c) ∧ ∀ v : Nat, v < 8 → g.1 34 v = I 1 := by
  have key : ∀ (n j : Nat) (g : St), j ≤ 8 → 8 - j < n → ∃ g', f_X7_passAll_L2 F n (I j) g = some g' ∧ g'.2 = g.2 ∧ (∀ c, c ≠ 34 → g'.1 c = g.1 c) ∧ ∀ v : Nat, g'.1 34 v = if j ≤ v ∧ v < 8 then I 1 else g.1 34 v := by
    intro n
    induction n with
    | zero => intro j g a b; omega
    | succ n ih =>
      intro j g a b
      rw [f_X7_passAll_L2]
      by_cases hj : j = 8
      · rw [if_neg (by rw [hj]; exact Int32.lt_irrefl)]
        exact ⟨g, rfl, rfl, fun _ _ => rfl, fun v => by rw [if_neg (by omega)]⟩
      · simp (maxSteps := 4000000) (disch := omega) only [I_lits, nz, nc, if_pos, if_neg, if_true, if_false, Option.bind_some, true_and, and_true, and_self, or_true, true_or, or_false, false_or, not_true_eq_false, not_false_eq_true, false_and, and_false, Bool.false_eq_true, decide_true, decide_false, eq_self]
        rw [show ((j : Int)).toNat = j by omega]
        obtain ⟨g', e1, e2, e3, e4⟩ := ih (j + 1) (seti g 34 j (I 1)) (by omega) (by omega)
        refine ⟨g', e1, e2, fun c hc => by rw [e3 c hc, seti_r hc], fun v => ?_⟩
        rw [e4 v, seti1]
        by_cases h1 : j + 1 ≤ v ∧ v < 8
        · rw [if_pos h1, if_pos (by omega)]
        · rw [if_neg h1]
          by_cases h2 : v = j
          · rw [if_pos ⟨rfl, h2⟩, if_pos (by omega)]
          · rw [if_neg (fun q => h2 q.2), if_neg (by omega)]
  obtain ⟨g', e1, e2, e3, e4⟩ := key F 0 σ (by omega) (by omega)
  unfold f_X7_passAll
  rw [show f_X7_passAll_L2 F F (0 : Int32) σ = some g' from e1]
  exact ⟨g', rfl, e2, e3, fun v hv => by rw [e4, if_pos (by omega)]⟩
theorem c_slotAt (h : SH B N f s r) {t : Int} (hR : RLiv B r t) (ht : 60 ≤ t) {own mt b : Int} (hb : (b = 0 ∧ own = f ∧ mt = s) ∨ (b = 1 ∧ own = s ∧ mt = f)) : f_X7_slotAt (I (to8 (Nw N (ps f s (t - 60))))) (I own) (I mt) (I (4 * b)) = I (@ite _ (Sn B N f s r t) (Classical.propDecidable _) (sc (onn N f s t)) (-1)) := by
  have hV := h.1.2.2
  have hfs := h.2.1
  have hLw := (hV.2.2.2 _ (ps_l h hR ht)).1
  have hlr := liv_r hV hLw
  have h8 := to8_r hlr.1 hlr.2
  unfold f_X7_slotAt
  by_cases hx : Nw N (ps f s (t - 60)) < 0
  · have hnS : ¬ Sn B N f s r t := fun q => by have := q.2.2.1; omega
    rw [if_neg hnS, to8_n hx]
    simp (maxSteps := 4000000) (disch := omega) only [I_lits, nz, nc, if_pos, if_neg, if_true, if_false, Option.bind_some, true_and, and_true, and_self, or_true, true_or, or_false, false_or, not_true_eq_false, not_false_eq_true, false_and, and_false, Bool.false_eq_true, decide_true, decide_false, eq_self]
  · have hx0 : 0 ≤ Nw N (ps f s (t - 60)) := by omega
    have h80 : 0 ≤ to8 (Nw N (ps f s (t - 60))) := by rw [to8_p hx0]; omega
    rw [I_portOf hx0 hlr.2, I_agentOf hx0 hlr.2]
    by_cases hS : Sn B N f s r t
    · have hos := os_b h hS
      have hsb := sl_b h hos.1 hos.2.1
      have heq : onn N f s t = 60 + ((if Nw N (ps f s (t - 60)) / 5 = f then 0 else 5) + Nw N (ps f s (t - 60)) % 5) := rfl
      have hown := hS.2.2.2
      rw [if_pos hS]
      by_cases hf : Nw N (ps f s (t - 60)) / 5 = f
      · rw [if_pos hf] at heq
        have esc : sc (onn N f s t) = Nw N (ps f s (t - 60)) % 5 - 1 := by unfold sc; omega
        have hp : 1 ≤ Nw N (ps f s (t - 60)) % 5 := by omega
        rw [esc]
        rcases hb with ⟨rfl, rfl, rfl⟩ | ⟨rfl, rfl, rfl⟩
        · simp (maxSteps := 4000000) (disch := omega) only [I_lits, nz, nc, if_pos, if_neg, if_true, if_false, Option.bind_some, true_and, and_true, and_self, or_true, true_or, or_false, false_or, not_true_eq_false, not_false_eq_true, false_and, and_false, Bool.false_eq_true, decide_true, decide_false, eq_self, hf]
          first | done | omega | (congr 1; omega)
        · simp (maxSteps := 4000000) (disch := omega) only [I_lits, nz, nc, if_pos, if_neg, if_true, if_false, Option.bind_some, true_and, and_true, and_self, or_true, true_or, or_false, false_or, not_true_eq_false, not_false_eq_true, false_and, and_false, Bool.false_eq_true, decide_true, decide_false, eq_self, hf]
          first | done | omega | (congr 1; omega)
      · have hs : Nw N (ps f s (t - 60)) / 5 = s := by
          rcases hown with q | q
          · exact absurd q hf
          · exact q
        rw [if_neg hf] at heq
        have esc : sc (onn N f s t) = 4 + Nw N (ps f s (t - 60)) % 5 - 1 := by unfold sc; omega
        have hp : 1 ≤ Nw N (ps f s (t - 60)) % 5 := by omega
        rw [esc]
        rcases hb with ⟨rfl, rfl, rfl⟩ | ⟨rfl, rfl, rfl⟩
        · simp (maxSteps := 4000000) (disch := omega) only [I_lits, nz, nc, if_pos, if_neg, if_true, if_false, Option.bind_some, true_and, and_true, and_self, or_true, true_or, or_false, false_or, not_true_eq_false, not_false_eq_true, false_and, and_false, Bool.false_eq_true, decide_true, decide_false, eq_self, hs]
          first | done | omega | (congr 1; omega)
        · simp (maxSteps := 4000000) (disch := omega) only [I_lits, nz, nc, if_pos, if_neg, if_true, if_false, Option.bind_some, true_and, and_true, and_self, or_true, true_or, or_false, false_or, not_true_eq_false, not_false_eq_true, false_and, and_false, Bool.false_eq_true, decide_true, decide_false, eq_self, hs]
          first | done | omega | (congr 1; omega)
    · have hout := tm_out h ⟨hR, hS⟩ ht
      have hne : Nw N (ps f s (t - 60)) / 5 ≠ f ∧ Nw N (ps f s (t - 60)) / 5 ≠ s := by
        rcases hout with q | q
        · omega
        · exact q.2
      rw [if_neg hS]
      by_cases hp : Nw N (ps f s (t - 60)) % 5 = 0
      · simp (maxSteps := 4000000) (disch := omega) only [I_lits, nz, nc, if_pos, if_neg, if_true, if_false, Option.bind_some, true_and, and_true, and_self, or_true, true_or, or_false, false_or, not_true_eq_false, not_false_eq_true, false_and, and_false, Bool.false_eq_true, decide_true, decide_false, eq_self, hp]
      · rcases hb with ⟨rfl, rfl, rfl⟩ | ⟨rfl, rfl, rfl⟩
        · simp (maxSteps := 4000000) (disch := omega) only [I_lits, nz, nc, if_pos, if_neg, if_true, if_false, Option.bind_some, true_and, and_true, and_self, or_true, true_or, or_false, false_or, not_true_eq_false, not_false_eq_true, false_and, and_false, Bool.false_eq_true, decide_true, decide_false, eq_self, hp]
        · simp (maxSteps := 4000000) (disch := omega) only [I_lits, nz, nc, if_pos, if_neg, if_true, if_false, Option.bind_some, true_and, and_true, and_self, or_true, true_or, or_false, false_or, not_true_eq_false, not_false_eq_true, false_and, and_false, Bool.false_eq_true, decide_true, decide_false, eq_self, hp]
def Out1 (B : BkT) (N : NtT) (f s r t : Int) (g : St) : Prop := g.1 32 (sc t).toNat = I (to8 (Nw N (ps f s (t - 60)))) ∧ g.1 33 (sc t).toNat = I (@ite _ (Sn B N f s r t) (Classical.propDecidable _) (sc (onn N f s t)) (-1)) ∧ g.1 34 (sc t).toNat = I 0
theorem c_note_L (h : SH B N f s r) (hC : NtC B N σ 77) {own mt b : Int} (hb : (b = 0 ∧ own = f ∧ mt = s) ∨ (b = 1 ∧ own = s ∧ mt = f)) : ∀ (n : Nat) (p : Int) (g : St), 1 ≤ p → p ≤ Bpt B (Nk N own) → Bpt B (Nk N own) - p < n → FrO σ g → ∃ g', f_X7_noteOutside_L24 F (I own) (I mt) (I (4 * b)) (I (Bpt B (Nk N own))) n (I p) g = some g' ∧ FrO σ g' ∧ (∀ t, RLiv B r t → 60 ≤ t → (t - 60) / 5 = b → p ≤ (t - 60) % 5 → Out1 B N f s r t g') ∧ ∀ v : Nat, ¬ (4 * b + p - 1 ≤ v ∧ (v : Int) < 4 * b + Bpt B (Nk N own) - 1) → g'.1 32 v = g.1 32 v ∧ g'.1 33 v = g.1 33 v ∧ g'.1 34 v = g.1 34 v := by
  have hK := h.1.1
  have hV := h.1.2.2
  have kf := hV.2.2.1 f h.2.1.1 h.2.1.2.1
  have ks := hV.2.2.1 s h.2.1.2.2.1 h.2.1.2.2.2.1
  have pf := hK.2.2.1 _ h.2.1.2.2.2.2.2.1 kf.2
  have pS := hK.2.2.1 _ h.2.1.2.2.2.2.2.2 ks.2
  have hown : 0 ≤ own ∧ own < 400 ∧ 0 ≤ Nk N own ∧ 1 ≤ Bpt B (Nk N own) ∧ Bpt B (Nk N own) ≤ 5 ∧ (b = 0 ∨ b = 1) ∧ own = ag f s (5 * b) := by
    rcases hb with ⟨rfl, rfl, rfl⟩ | ⟨rfl, rfl, rfl⟩
    · exact ⟨h.2.1.1, h.2.1.2.1, h.2.1.2.2.2.2.2.1, pf.1, pf.2, Or.inl rfl, rfl⟩
    · exact ⟨h.2.1.2.2.1, h.2.1.2.2.2.1, h.2.1.2.2.2.2.2.2, pS.1, pS.2, Or.inr rfl, rfl⟩
  obtain ⟨w0, w1, w2, w3, w4, w5, w6⟩ := hown
  intro n
  induction n with
  | zero => intro p g a b' c; omega
  | succ n ih =>
    intro p g a b' c hg
    rw [f_X7_noteOutside_L24]
    by_cases hp : p = Bpt B (Nk N own)
    · rw [if_neg (by rw [hp]; exact Int32.lt_irrefl)]
      refine ⟨g, rfl, hg, fun t hR ht h5 hpp => ?_, fun _ _ => ⟨rfl, rfl, rfl⟩⟩
      exfalso
      have := sl_b h hR ht
      have eag : ag f s (t - 60) = own := by
        rw [w6]
        unfold ag
        by_cases q : t - 60 < 5
        · rw [if_pos q, if_pos (by omega)]
        · rw [if_neg q, if_neg (by omega)]
      rw [eag] at this
      omega
    · have eag : ag f s (5 * b + p) = own := by
        rw [w6]
        unfold ag
        by_cases q : 5 * b + p < 5
        · rw [if_pos q, if_pos (by omega)]
        · rw [if_neg q, if_neg (by omega)]
      have hR : RLiv B r (60 + (5 * b + p)) := sl_mk h (by omega) (by omega) (by omega) (by rw [eag, show (5 * b + p) % 5 = p by omega]; omega)
      have eps : ps f s (60 + (5 * b + p) - 60) = 5 * own + p := by
        rw [show 60 + (5 * b + p) - 60 = 5 * b + p by omega]
        unfold ps
        rw [eag]; omega
      have esc : sc (60 + (5 * b + p)) = 4 * b + p - 1 := by unfold sc; omega
      have hsl := c_slotAt h hR (by omega) hb
      rw [eps] at hsl
      have hL := ps_l h hR (by omega)
      rw [eps] at hL
      have hCg : NtC B N g 77 := ntc_fr hC (fun k _ _ => hg.2 k (by omega) (by omega) (by omega))
      have hw := c_wireOf hV hCg hL
      rw [to8_p (by omega), show 8 * ((5 * own + p) / 5) + (5 * own + p) % 5 = 8 * own + p by omega] at hw
      unfold f_X11_portCode f_X11_isInside
      simp (maxSteps := 4000000) (disch := omega) only [I_lits, nz, nc, if_pos, if_neg, if_true, if_false, Option.bind_some, true_and, and_true, and_self, or_true, true_or, or_false, false_or, not_true_eq_false, not_false_eq_true, false_and, and_false, Bool.false_eq_true, decide_true, decide_false, eq_self, hw, hsl, i01]
      obtain ⟨g', e1, e2, e3, e4⟩ := ih (p + 1) (seti (seti (seti g 34 (4 * b + p - 1).toNat (I 0)) 32 (4 * b + p - 1).toNat (I (to8 (Nw N (5 * own + p))))) 33 (4 * b + p - 1).toNat (I (@ite _ (Sn B N f s r (60 + (5 * b + p))) (Classical.propDecidable _) (sc (onn N f s (60 + (5 * b + p)))) (-1)))) (by omega) (by omega) (by omega) ⟨hg.1, fun c c1 c2 c3 => by rw [seti_r c2, seti_r c1, seti_r c3, hg.2 c c1 c2 c3]⟩
      refine ⟨g', e1, e2, fun t hR' ht h5 hpp => ?_, fun v hv => ?_⟩
      · by_cases e : (t - 60) % 5 = p
        · have et : t = 60 + (5 * b + p) := by omega
          have := e4 (sc t).toNat (by rw [et, esc]; omega)
          unfold Out1
          rw [this.1, this.2.1, this.2.2, et, esc, eps]
          refine ⟨?_, ?_, ?_⟩
          · rw [seti_r (by omega), seti1, if_pos ⟨rfl, rfl⟩]
          · rw [seti1, if_pos ⟨rfl, rfl⟩]
          · rw [seti_r (by omega), seti_r (by omega), seti1, if_pos ⟨rfl, rfl⟩]
        · exact e3 t hR' ht h5 (by omega)
      · have := e4 v (by omega)
        rw [this.1, this.2.1, this.2.2]
        refine ⟨?_, ?_, ?_⟩
        · rw [seti_r (by omega), seti1, if_neg (by omega), seti_r (by omega)]
        · rw [seti1, if_neg (by omega), seti_r (by omega), seti_r (by omega)]
        · rw [seti_r (by omega), seti_r (by omega), seti1, if_neg (by omega)]
theorem c_note (h : SH B N f s r) (hF : 10000 ≤ F) (hBC : BkC B σ 64) (hC : NtC B N σ 77) {own mt b : Int} (hb : (b = 0 ∧ own = f ∧ mt = s) ∨ (b = 1 ∧ own = s ∧ mt = f)) {g : St} (hg : FrO σ g) : ∃ g', f_X7_noteOutside F (I own) (I mt) (I (4 * b)) g = some g' ∧ FrO σ g' ∧ (∀ t, RLiv B r t → 60 ≤ t → (t - 60) / 5 = b → Out1 B N f s r t g') ∧ ∀ v : Nat, ¬ (4 * b ≤ v ∧ (v : Int) < 4 * b + Bpt B (Nk N own) - 1) → g'.1 32 v = g.1 32 v ∧ g'.1 33 v = g.1 33 v ∧ g'.1 34 v = g.1 34 v := by
  have hK := h.1.1
  have hV := h.1.2.2
  have h16 := hK.2.1
  have hown : 0 ≤ own ∧ own < 400 ∧ 0 ≤ Nk N own := by
    rcases hb with ⟨rfl, rfl, rfl⟩ | ⟨rfl, rfl, rfl⟩
    · exact ⟨h.2.1.1, h.2.1.2.1, h.2.1.2.2.2.2.2.1⟩
    · exact ⟨h.2.1.2.2.1, h.2.1.2.2.2.1, h.2.1.2.2.2.2.2.2⟩
  have ko := hV.2.2.1 own hown.1 hown.2.1
  have po := hK.2.2.1 _ hown.2.2 ko.2
  have hCg : NtC B N g 77 := ntc_fr hC (fun k _ _ => hg.2 k (by omega) (by omega) (by omega))
  have hBg : BkC B g 64 := bkc_fr hBC (fun k _ _ => hg.2 k (by omega) (by omega) (by omega)) (by rw [hg.1])
  have e1 := c_kindOf hCg (n := own) (by omega) (by omega)
  rw [if_pos ⟨hown.1, hown.2.1⟩] at e1
  have e2 := c_portsOf hBg hK (k := Nk N own) (by omega) (by omega)
  rw [if_pos ⟨hown.2.2, ko.2⟩] at e2
  obtain ⟨g', a1, a2, a3, a4⟩ := c_note_L (F := F) h hC hb F 1 g (by omega) po.1 (by omega) hg
  unfold f_X7_noteOutside f_J9_min_7cf53
  simp (maxSteps := 4000000) (disch := omega) only [I_lits, nz, nc, if_pos, if_neg, if_true, if_false, Option.bind_some, true_and, and_true, and_self, or_true, true_or, or_false, false_or, not_true_eq_false, not_false_eq_true, false_and, and_false, Bool.false_eq_true, decide_true, decide_false, eq_self, e1, e2, a1]
  refine ⟨g', rfl, a2, fun t hR ht h5 => a3 t hR ht h5 (sl_b h hR ht).2.1, fun v hv => a4 v (by omega)⟩
theorem c_outs (h : SH B N f s r) (hF : 10000 ≤ F) (hBC : BkC B σ 64) (hC : NtC B N σ 77) : ∃ s9 s10 s11, f_X7_passAll F σ = some s9 ∧ f_X7_noteOutside F (I f) (I s) (0 : Int32) s9 = some s10 ∧ f_X7_noteOutside F (I s) (I f) (4 : Int32) s10 = some s11 ∧ FrO σ s11 ∧ OutC B N f s r s11 ∧ PsC B r s11 (fun _ => False) := by
  obtain ⟨s9, a1, a2, a3, a4⟩ := c_passAll (F := F) (σ := σ) hF
  obtain ⟨s10, b1, b2, b3, b4⟩ := c_note (F := F) h hF hBC hC (Or.inl ⟨rfl, rfl, rfl⟩) (g := s9) ⟨a2, fun c _ _ c3 => a3 c c3⟩
  obtain ⟨s11, c1, c2, c3, c4⟩ := c_note (F := F) h hF hBC hC (Or.inr ⟨rfl, rfl, rfl⟩) (g := s10) b2
  have hK := h.1.1
  have hV := h.1.2.2
  have kf := hV.2.2.1 f h.2.1.1 h.2.1.2.1
  have ks := hV.2.2.1 s h.2.1.2.2.1 h.2.1.2.2.2.1
  have pf := hK.2.2.1 _ h.2.1.2.2.2.2.2.1 kf.2
  have pS := hK.2.2.1 _ h.2.1.2.2.2.2.2.2 ks.2
  have all : ∀ t, RLiv B r t → 60 ≤ t → Out1 B N f s r t s11 := by
    intro t hR ht
    have hb := sl_b h hR ht
    by_cases q : (t - 60) / 5 = 1
    · exact c3 t hR ht q
    · have o := b3 t hR ht (by omega)
      have hsc := sc_b h hR ht
      have same := c4 (sc t).toNat (by unfold sc; omega)
      unfold Out1
      rw [same.1, same.2.1, same.2.2]; exact o
  refine ⟨s9, s10, s11, a1, b1, c1, c2, fun t hR ht => ?_, fun t hR ht => ⟨fun q => absurd q id, fun _ => (all t hR ht).2.2⟩, fun v v0 v1 hv => ?_⟩
  · obtain ⟨o1, o2, o3⟩ := all t hR ht
    refine ⟨o1, fun q => ?_, fun q => ?_⟩
    · rw [o2, if_pos q]
    · rw [o2, if_neg q]
  · -- a slot that is none
    have nz1 : ¬ (4 ≤ v ∧ v < 4 + Bpt B (Nk N s) - 1) := fun q => hv (by
      have : 61 + 5 * (v / 4) + v % 4 = 60 + (v + 2) := by omega
      rw [this]
      refine sl_mk h (by omega) (by omega) (by omega) ?_
      unfold ag
      rw [if_neg (by omega)]; omega)
    have nz0 : ¬ (0 ≤ v ∧ v < Bpt B (Nk N f) - 1) := fun q => hv (by
      have : 61 + 5 * (v / 4) + v % 4 = 60 + (v + 1) := by omega
      rw [this]
      refine sl_mk h (by omega) (by omega) (by omega) ?_
      unfold ag
      rw [if_pos (by omega)]; omega)
    rw [(c4 v.toNat (by omega)).2.2, (b4 v.toNat (by omega)).2.2]
    exact a4 _ (by omega)
theorem m_outs (h : SH B N f s r) (hF : 10000 ≤ F) (hB : BkM B τ) (hM : NtM B N τ) : ∃ g, f_X12_findOuter F (I f) (I s) τ = some g ∧ g.2 = τ.2 ∧ (∀ c, c ≠ 40 → c ≠ 41 → g.1 c = τ.1 c) ∧ OutM B N f s r g ∧ PsM B r g (fun _ => False) := by
  have hK := h.1.1
  have hV := h.1.2.2
  have h16 := hK.2.1
  have key : ∀ (n : Nat) (o : Int) (g : St), 0 ≤ o → o ≤ 10 → 10 - o < n → g.2 = τ.2 → (∀ c, c ≠ 40 → c ≠ 41 → g.1 c = τ.1 c) → ∃ g', f_X12_findOuter_L2 F (I f) (I s) n (I o) g = some g' ∧ g'.2 = τ.2 ∧ (∀ c, c ≠ 40 → c ≠ 41 → g'.1 c = τ.1 c) ∧ (∀ v : Nat, (v : Int) < o → g'.1 40 v = g.1 40 v ∧ g'.1 41 v = g.1 41 v) ∧ ∀ t, RLiv B r t → 60 + o ≤ t → (Sn B N f s r t → g'.1 40 (t - 60).toNat = I (10000 + (onn N f s t - 60))) ∧ (¬ Sn B N f s r t → g'.1 40 (t - 60).toNat = I (Nw N (ps f s (t - 60)))) ∧ g'.1 41 (t - 60).toNat = I 0 := by
    intro n
    induction n with
    | zero => intro o g a b c; omega
    | succ n ih =>
      intro o g o0 o1 o2 h3 h4
      rw [f_X12_findOuter_L2]
      by_cases ho : o = 10
      · rw [if_neg (by rw [ho]; exact Int32.lt_irrefl)]
        refine ⟨g, rfl, h3, h4, fun _ _ => ⟨rfl, rfl⟩, fun t hR ht => ?_⟩
        have := rl_r h hR
        omega
      · have hag := ag_b h o
        have kb := hV.2.2.1 _ hag.1 hag.2.1
        have pb := hK.2.2.1 _ hag.2.2 kb.2
        have e12 : (seti (seti g 41 o.toNat (I 0)) 40 o.toNat (I 0)).1 12 (ag f s o).toNat = I (Nk N (ag f s o)) := by rw [seti_r (by omega), seti_r (by omega), h4 12 (by omega) (by omega)]; exact hM.1 _ hag.1 hag.2.1
        have e3 : (seti (seti g 41 o.toNat (I 0)) 40 o.toNat (I 0)).1 3 (Nk N (ag f s o)).toNat = I (Bpt B (Nk N (ag f s o))) := by rw [seti_r (by omega), seti_r (by omega), h4 3 (by omega) (by omega)]; exact hB.1.2.2.1 _ hag.2.2 kb.2
        have eag : (if I o < (5 : Int32) then some (I f) else some (I s)) = some (I (ag f s o)) := by
          unfold ag
          by_cases q : o < 5
          · simp (maxSteps := 4000000) (disch := omega) only [I_lits, nz, nc, if_pos, if_neg, if_true, if_false, Option.bind_some, true_and, and_true, and_self, or_true, true_or, or_false, false_or, not_true_eq_false, not_false_eq_true, false_and, and_false, Bool.false_eq_true, decide_true, decide_false, eq_self, q]
          · simp (maxSteps := 4000000) (disch := omega) only [I_lits, nz, nc, if_pos, if_neg, if_true, if_false, Option.bind_some, true_and, and_true, and_self, or_true, true_or, or_false, false_or, not_true_eq_false, not_false_eq_true, false_and, and_false, Bool.false_eq_true, decide_true, decide_false, eq_self, q]
        rw [eag]
        have em : o - o / 5 * 5 = o % 5 := by omega
        by_cases hR : RLiv B r (60 + o)
        · have hb := sl_b h hR (by omega)
          have hL := ps_l h hR (by omega)
          rw [show 60 + o - 60 = o by omega] at hb hL
          have hLw := (hV.2.2.2 _ hL).1
          have hlr := liv_r hV hLw
          have eps : 5 * ag f s o + o % 5 = ps f s o := rfl
          have e13 : (seti (seti g 41 o.toNat (I 0)) 40 o.toNat (I 0)).1 13 (5 * ag f s o + o % 5).toNat = I (Nw N (ps f s o)) := by
            rw [seti_r (by omega), seti_r (by omega), h4 13 (by omega) (by omega), eps]
            exact hM.2.1 _ hL (by rw [← eps]; omega)
          simp (maxSteps := 4000000) (disch := omega) only [I_lits, nz, nc, em, e12, e3, e13, Option.bind_some]
          rw [if_pos (by omega), if_pos (by omega), if_pos (by omega), if_pos (by omega), if_pos (by omega), if_pos (by omega), if_pos (by omega), if_pos (by omega)]
          by_cases hS : Sn B N f s r (60 + o)
          · have hso := hS.2.2
            rw [show 60 + o - 60 = o by omega] at hso
            have heq : onn N f s (60 + o) - 60 = (if Nw N (ps f s o) / 5 = f then 0 else 5) + Nw N (ps f s o) % 5 := by
              unfold onn oso
              rw [show 60 + o - 60 = o by omega]; omega
            have hx0 := hso.1
            have val : (if (0 : Int) ≤ Nw N (ps f s o) ∧ (I (Nw N (ps f s o)) / I 5 = I f ∨ I (Nw N (ps f s o)) / I 5 = I s) then some (I 1) else some (I 0)) = some (I 1) := by
              rw [I_div (by omega) (by omega) (by omega) (by omega)]
              rw [if_pos ⟨hx0, by
                rcases hso.2 with q | q
                · left; rw [q]
                · right; rw [q]⟩]
            rw [val, Option.bind_some, if_neg (by decide)]
            have hds : I (Nw N (ps f s o)) / I 5 = I (Nw N (ps f s o) / 5) := I_div (by omega) (by omega) (by omega) (by omega)
            have hfb := h.2.1
            have e10k : ((if I (Nw N (ps f s o)) / I 5 = I f then some (I 0) else some (I 5)).bind fun t26 => some (I 10000 + t26 + (I (Nw N (ps f s o)) - I (Nw N (ps f s o)) / I 5 * I 5))) = some (I (10000 + (onn N f s (60 + o) - 60))) := by
              rw [hds, heq]
              by_cases q : Nw N (ps f s o) / 5 = f
              · rw [if_pos (by rw [q]), if_pos q, Option.bind_some]
                simp (maxSteps := 4000000) (disch := omega) only [I_lits, nz, nc]
                congr 2; omega
              · rw [if_neg (fun w => q ((I_eq (by omega) (by omega) (by omega) (by omega)).mp w)), if_neg q, Option.bind_some]
                simp (maxSteps := 4000000) (disch := omega) only [I_lits, nz, nc]
                congr 2; omega
            rw [e10k, Option.bind_some, if_pos (by omega), Option.bind_some]
            obtain ⟨g', q1, q2, q3, q4, q5⟩ := ih (o + 1) (seti (seti (seti g 41 o.toNat (I 0)) 40 o.toNat (I 0)) 40 o.toNat (I (10000 + (onn N f s (60 + o) - 60)))) (by omega) (by omega) (by omega) h3 (fun c c1 c2 => by rw [seti_r c1, seti_r c1, seti_r c2, h4 c c1 c2])
            refine ⟨g', q1, q2, q3, fun v hv => ?_, fun t hRt ht => ?_⟩
            · have := q4 v (by omega)
              rw [this.1, this.2]
              refine ⟨?_, ?_⟩
              · rw [seti1, if_neg (by omega), seti1, if_neg (by omega), seti_r (by omega)]
              · rw [seti_r (by omega), seti_r (by omega), seti1, if_neg (by omega)]
            · by_cases e : t = 60 + o
              · have := q4 (t - 60).toNat (by omega)
                rw [this.1, this.2, e, show 60 + o - 60 = o by omega]
                refine ⟨fun _ => ?_, fun w => absurd hS w, ?_⟩
                · rw [seti1, if_pos ⟨rfl, rfl⟩]
                · rw [seti_r (by omega), seti_r (by omega), seti1, if_pos ⟨rfl, rfl⟩]
              · exact q5 t hRt (by omega)
          · have hout := tm_out h ⟨hR, hS⟩ (by omega)
            rw [show 60 + o - 60 = o by omega] at hout
            have hfb := h.2.1
            have val : (if (0 : Int) ≤ Nw N (ps f s o) ∧ (I (Nw N (ps f s o)) / I 5 = I f ∨ I (Nw N (ps f s o)) / I 5 = I s) then some (I 1) else some (I 0)) = some (I 0) := by
              rcases hout with q | q
              · rw [if_neg (by omega)]
              · rw [I_div (by omega) (by omega) (by omega) (by omega), if_neg (fun w => by
                  rcases w.2 with z | z
                  · exact q.2.1 ((I_eq (by omega) (by omega) (by omega) (by omega)).mp z)
                  · exact q.2.2 ((I_eq (by omega) (by omega) (by omega) (by omega)).mp z))]
            rw [val, Option.bind_some, if_pos (by decide), Option.bind_some, if_pos (by omega), Option.bind_some]
            obtain ⟨g', q1, q2, q3, q4, q5⟩ := ih (o + 1) (seti (seti (seti g 41 o.toNat (I 0)) 40 o.toNat (I 0)) 40 o.toNat (I (Nw N (ps f s o)))) (by omega) (by omega) (by omega) h3 (fun c c1 c2 => by rw [seti_r c1, seti_r c1, seti_r c2, h4 c c1 c2])
            refine ⟨g', q1, q2, q3, fun v hv => ?_, fun t hRt ht => ?_⟩
            · have := q4 v (by omega)
              rw [this.1, this.2]
              refine ⟨?_, ?_⟩
              · rw [seti1, if_neg (by omega), seti1, if_neg (by omega), seti_r (by omega)]
              · rw [seti_r (by omega), seti_r (by omega), seti1, if_neg (by omega)]
            · by_cases e : t = 60 + o
              · have := q4 (t - 60).toNat (by omega)
                rw [this.1, this.2, e, show 60 + o - 60 = o by omega]
                refine ⟨fun w => absurd w hS, fun _ => ?_, ?_⟩
                · rw [seti1, if_pos ⟨rfl, rfl⟩]
                · rw [seti_r (by omega), seti_r (by omega), seti1, if_pos ⟨rfl, rfl⟩]
              · exact q5 t hRt (by omega)
        · have hno : ¬ (0 < o % 5 ∧ o % 5 < Bpt B (Nk N (ag f s o))) := fun q => hR (sl_mk h o0 (by omega) (by omega) q.2)
          have rest : ∃ g', f_X12_findOuter_L2 F (I f) (I s) n (I (o + 1)) (seti (seti g 41 o.toNat (I 0)) 40 o.toNat (I 0)) = some g' ∧ g'.2 = τ.2 ∧ (∀ c, c ≠ 40 → c ≠ 41 → g'.1 c = τ.1 c) ∧ (∀ v : Nat, (v : Int) < o → g'.1 40 v = g.1 40 v ∧ g'.1 41 v = g.1 41 v) ∧ ∀ t, RLiv B r t → 60 + o ≤ t → (Sn B N f s r t → g'.1 40 (t - 60).toNat = I (10000 + (onn N f s t - 60))) ∧ (¬ Sn B N f s r t → g'.1 40 (t - 60).toNat = I (Nw N (ps f s (t - 60)))) ∧ g'.1 41 (t - 60).toNat = I 0 := by
            obtain ⟨g', q1, q2, q3, q4, q5⟩ := ih (o + 1) (seti (seti g 41 o.toNat (I 0)) 40 o.toNat (I 0)) (by omega) (by omega) (by omega) h3 (fun c c1 c2 => by rw [seti_r c1, seti_r c2, h4 c c1 c2])
            refine ⟨g', q1, q2, q3, fun v hv => ?_, fun t hRt ht => ?_⟩
            · have := q4 v (by omega)
              rw [this.1, this.2]
              refine ⟨?_, ?_⟩
              · rw [seti1, if_neg (by omega), seti_r (by omega)]
              · rw [seti_r (by omega), seti1, if_neg (by omega)]
            · by_cases e : t = 60 + o
              · rw [e] at hRt; exact absurd hRt hR
              · exact q5 t hRt (by omega)
          simp (maxSteps := 4000000) (disch := omega) only [I_lits, nz, nc, em, e12, e3, Option.bind_some]
          rw [if_pos (by omega), if_pos (by omega), if_pos (by omega)]
          by_cases q : 0 < o % 5
          · rw [if_pos q, if_pos (by omega), if_pos (by omega), if_neg (fun w => hno ⟨q, w⟩), Option.bind_some]
            exact rest
          · rw [if_neg q, Option.bind_some]
            exact rest
  obtain ⟨g', q1, q2, q3, q4, q5⟩ := key F 0 τ (by omega) (by omega) (by omega) rfl (fun _ _ _ => rfl)
  unfold f_X12_findOuter
  rw [show (0 : Int32) = I 0 from rfl, q1]
  refine ⟨g', rfl, q2, q3, fun t hR ht => ⟨(q5 t hR (by omega)).1, (q5 t hR (by omega)).2.1⟩, fun t hR ht => ⟨fun w => absurd w id, fun _ => (q5 t hR (by omega)).2.2⟩⟩
end OUS
