/-! count() -/
def wfr (N : NtT) (x : Int) : Int := if 0 ≤ x ∧ x < 400 ∧ 0 ≤ Nk N x ∧ 0 ≤ Nw N (5 * x) ∧ ¬ (Nw N (5 * x) % 5 = 0) then Nw N (5 * x) / 5 else -1
section CO
variable {B : BkT} {N : NtT} {σ τ : St} {q : Int} {F : Nat}
theorem c_fill {a na : Nat} {v : Int32} (hn : na < 10000) (hF : 10000 ≤ F) : ∃ σ', f_J7_fill_53178 F a na v σ = some σ' ∧ σ'.2 = σ.2 ∧ (∀ k, k ≠ a → σ'.1 k = σ.1 k) ∧ ∀ j, j < na → σ'.1 a j = v := by
  unfold f_J7_fill_53178
  have key : ∀ (n j : Nat) (g : St), j ≤ na → na - j < n → ∃ g', f_J7_fill_53178_L5 F a na v (I na) n (I j) g = some g' ∧ g'.2 = g.2 ∧ (∀ k, k ≠ a → g'.1 k = g.1 k) ∧ ∀ i, g'.1 a i = if j ≤ i ∧ i < na then v else g.1 a i := by
    intro n
    induction n with
    | zero => intro j g h1 h2; omega
    | succ n ih =>
      intro j g h1 h2
      rw [f_J7_fill_53178_L5]
      by_cases h : j = na
      · subst h
        simp (maxSteps := 4000000) (disch := omega) only [I_lits, nz, nc, if_pos, if_neg, if_true, if_false, Option.bind_some, true_and, and_true, and_self, or_true, true_or, or_false, false_or, not_true_eq_false, not_false_eq_true, false_and, and_false, Bool.false_eq_true, decide_true, decide_false, eq_self, Int.lt_irrefl]
        exact ⟨g, rfl, rfl, fun _ _ => rfl, fun i => rfl⟩
      · simp (maxSteps := 4000000) (disch := omega) only [I_lits, nz, nc, if_pos, if_neg, if_true, if_false, Option.bind_some, true_and, and_true, and_self, or_true, true_or, or_false, false_or, not_true_eq_false, not_false_eq_true, false_and, and_false, Bool.false_eq_true, decide_true, decide_false, eq_self]
        rw [show ((j : Int)).toNat = j by omega]
        obtain ⟨g', e1, e2, e3, e4⟩ := ih (j + 1) (seti g a j v) (by omega) (by omega)
        refine ⟨g', e1, e2, fun k hk => by rw [e3 k hk, seti_r hk], fun i => ?_⟩
        rw [e4 i, seti1]
        by_cases hi : j + 1 ≤ i ∧ i < na
        · rw [if_pos hi, if_pos (by omega)]
        · rw [if_neg hi]
          by_cases hi2 : i = j
          · rw [if_pos ⟨rfl, hi2⟩, if_pos (by omega)]
          · rw [if_neg (fun q => hi2 q.2), if_neg (by omega)]
  obtain ⟨g', e1, e2, e3, e4⟩ := key F 0 σ (by omega) (by omega)
  have e1' : f_J7_fill_53178_L5 F a na v (I na) F (0 : Int32) σ = some g' := e1
  refine ⟨g', ?_, e2, e3, fun j hj => by rw [e4, if_pos (by omega)]⟩
  rw [Option.bind_some, I_ofNat, e1']
  rfl
theorem wfr_fn (hK : KdV B) (hV : NetV B N) : Fn (wfr N) := by
  constructor
  · intro x
    unfold wfr
    split
    · rename_i h
      have hl := (hV.2.2.2 _ (liv_head hK hV h.1 h.2.1 h.2.2.1)).1
      have := liv_r hV hl
      exact Or.inr ⟨by omega, by omega⟩
    · exact Or.inl rfl
  · exact if_neg (by omega)
theorem c_waitsFor (hK : KdV B) (hV : NetV B N) (hC : NtC B N σ 77) {n : Int} (h0 : 0 ≤ n) (h1 : n < 400) : f_X4_waitsFor (I n) σ = some (I (wfr N n)) := by
  unfold f_X4_waitsFor f_X11_portOf f_X11_agentOf
  rw [c_has hK hV hC (by omega) (by omega)]
  unfold wfr
  have h16 := hK.2.1
  have hk := hV.2.2.1 n h0 h1
  by_cases h : 0 ≤ Nk N n
  · have hL := liv_head hK hV h0 h1 h
    have he := hC.2.1 _ hL (by omega)
    have hl := (hV.2.2.2 _ hL).1
    have hr := liv_r hV hl
    rw [show 8 * (5 * n / 5) + 5 * n % 5 = n * 8 by omega] at he
    simp (maxSteps := 4000000) (disch := omega) only [I_lits, nz, nc, if_pos, if_neg, if_true, if_false, Option.bind_some, true_and, and_true, and_self, or_true, true_or, or_false, false_or, not_true_eq_false, not_false_eq_true, false_and, and_false, Bool.false_eq_true, decide_true, decide_false, eq_self, h0, h1, h, i01, he]
    by_cases hw : 0 ≤ Nw N (5 * n)
    · rw [to8_p hw]
      have e7 : I (8 * (Nw N (5 * n) / 5) + Nw N (5 * n) % 5) &&& I 7 = I (Nw N (5 * n) % 5) := by
        rw [show I 7 = (7 : Int32) from rfl, I_and7 (by omega) (by omega)]
        congr 1
        omega
      have e3 : I (8 * (Nw N (5 * n) / 5) + Nw N (5 * n) % 5) >>> (I 3 &&& 31) = I (Nw N (5 * n) / 5) := by
        rw [show I 3 = (3 : Int32) from rfl, I_shr3 (by omega) (by omega)]
        congr 1
        omega
      simp (maxSteps := 4000000) (disch := omega) only [I_lits, nz, nc, e7]
      by_cases hm : Nw N (5 * n) % 5 = 0
      · rw [if_neg (fun q => q.2 hm), if_neg (fun q => q.2 hm)]
      · rw [if_pos ⟨by omega, hm⟩, if_pos ⟨hw, hm⟩]
        first | rw [e3] | (rw [show (31 : Int32) = I 31 from rfl] at e3; rw [e3])
    · rw [to8_n (by omega)]
      simp (maxSteps := 4000000) (disch := omega) only [I_lits, nz, nc]
      rw [if_neg (by omega), if_neg (by omega)]
  · simp (maxSteps := 4000000) (disch := omega) only [I_lits, nz, nc, if_pos, if_neg, if_true, if_false, Option.bind_some, true_and, and_true, and_self, or_true, true_or, or_false, false_or, not_true_eq_false, not_false_eq_true, false_and, and_false, Bool.false_eq_true, decide_true, decide_false, eq_self, h0, h1, h]
theorem m_waitsFor (hK : KdV B) (hV : NetV B N) (hM : NtM B N τ) {n : Int} (h0 : 0 ≤ n) (h1 : n < 400) : f_X12_waitsFor (I n) τ = some (I (wfr N n)) := by
  unfold f_X12_waitsFor wfr
  have h16 := hK.2.1
  have hk := hV.2.2.1 n h0 h1
  have ha := hM.1 n h0 h1
  by_cases h : 0 ≤ Nk N n
  · have hL := liv_head hK hV h0 h1 h
    have he := hM.2.1 _ hL (by omega)
    have hl := (hV.2.2.2 _ hL).1
    have hr := liv_r hV hl
    simp (maxSteps := 4000000) (disch := omega) only [I_lits, nz, nc, if_pos, if_neg, if_true, if_false, Option.bind_some, true_and, and_true, and_self, or_true, true_or, or_false, false_or, not_true_eq_false, not_false_eq_true, false_and, and_false, Bool.false_eq_true, decide_true, decide_false, eq_self, ha, he, h, h0, h1]
    by_cases hw : 0 ≤ Nw N (5 * n)
    · simp (maxSteps := 4000000) (disch := omega) only [I_lits, nz, nc]
      by_cases hm : Nw N (5 * n) % 5 = 0
      · rw [if_neg (fun q => q.2 (by omega)), if_neg (fun q => q.2 hm)]
      · rw [if_pos ⟨hw, by omega⟩, if_pos ⟨hw, hm⟩]
    · rw [if_neg (fun q => hw q.1), if_neg (fun q => hw q.1)]
  · simp (maxSteps := 4000000) (disch := omega) only [I_lits, nz, nc, if_pos, if_neg, if_true, if_false, Option.bind_some, true_and, and_true, and_self, or_true, true_or, or_false, false_or, not_true_eq_false, not_false_eq_true, false_and, and_false, Bool.false_eq_true, decide_true, decide_false, eq_self, ha, h]
theorem m_circ_L (hK : KdV B) (hV : NetV B N) (hM : NtM B N τ) {a : Int} (a0 : 0 ≤ a) (a1 : a < 400) (c : Int32) : ∀ (n k : Nat), k ≤ 400 → 400 - k < n → (∀ j, 1 ≤ j → j ≤ k → a < fi (wfr N) j a) → ∃ r, f_X12_circles_L20 F c (I a) τ n (I (fi (wfr N) (k + 1) a)) (I k) = some (I r) ∧ -1 ≤ r ∧ r < 400 ∧ (r = a ↔ cyc (wfr N) a) := by
  intro n
  induction n with
  | zero => intro k h1 h2; omega
  | succ n ih =>
    intro k h1 h2 h3
    have hf := wfr_fn hK hV
    have hr := fi_r hf (a := a) (Or.inr ⟨a0, a1⟩) (k + 1)
    rw [f_X12_circles_L20]
    simp (maxSteps := 4000000) (disch := omega) only [I_lits, nz, nc]
    by_cases hc : k < 400 ∧ a < fi (wfr N) (k + 1) a
    · rw [if_pos (show (k : Int) < 400 ∧ a < fi (wfr N) (k + 1) a from ⟨by omega, hc.2⟩), m_waitsFor hK hV hM (by omega) (by omega)]
      simp (maxSteps := 4000000) (disch := omega) only [I_lits, nz, nc, if_pos, if_neg, if_true, if_false, Option.bind_some, true_and, and_true, and_self, or_true, true_or, or_false, false_or, not_true_eq_false, not_false_eq_true, false_and, and_false, Bool.false_eq_true, decide_true, decide_false, eq_self]
      obtain ⟨r, e1, e2⟩ := ih (k + 1) (by omega) (by omega) (fun j j1 j2 => by
        by_cases e : j = k + 1
        · rw [e]; exact hc.2
        · exact h3 j j1 (by omega))
      exact ⟨r, e1, e2⟩
    · rw [if_neg (show ¬ ((k : Int) < 400 ∧ a < fi (wfr N) (k + 1) a) from fun q => hc ⟨by omega, q.2⟩)]
      refine ⟨_, rfl, by omega, by omega, ?_, ?_⟩
      · intro e
        exact ⟨a0, k + 1, by omega, e, fun j j1 j2 => h3 j j1 (by omega)⟩
      · rintro ⟨_, m, m1, m2, m3⟩
        have ms := cyc_short hf a0 a1 m1 m2 m3
        rcases Nat.lt_trichotomy m (k + 1) with q | q | q
        · have := h3 m m1 (by omega)
          omega
        · rw [← q]; exact m2
        · exact absurd ⟨by omega, m3 (k + 1) (by omega) q⟩ hc
theorem m_circles (hK : KdV B) (hV : NetV B N) (hM : NtM B N τ) (hF : 10000 ≤ F) : f_X12_circles F τ = some (I (cnt (cyB (wfr N) (fun _ => True)) 400)) := by
  unfold f_X12_circles
  have := cnt_loop (L := f_X12_circles_L4 F τ) (p := cyB (wfr N) (fun _ => True)) (c := 400) (by
    intro n v j hj
    rw [f_X12_circles_L4, m_waitsFor hK hV hM (by omega) (by omega)]
    obtain ⟨r, e1, e2, e3, e4⟩ := m_circ_L (F := F) hK hV hM (a := j) (by omega) (by omega) v F 0 (by omega) (by omega) (fun i i1 i2 => by omega)
    have hfi : fi (wfr N) (0 + 1) (j : Int) = wfr N j := by simp only [fi]
    rw [hfi] at e1
    have e1' : f_X12_circles_L20 F v (I j) τ F (I (wfr N j)) (I 0) = some (I r) := e1
    simp (maxSteps := 4000000) (disch := omega) only [I_lits, nz, nc, if_pos, if_neg, if_true, if_false, Option.bind_some, true_and, and_true, and_self, or_true, true_or, or_false, false_or, not_true_eq_false, not_false_eq_true, false_and, and_false, Bool.false_eq_true, decide_true, decide_false, eq_self, e1']
    by_cases hr : r = j
    · have : cyB (wfr N) (fun _ => True) j = true := cyB_t.mpr ⟨e4.mp hr, trivial⟩
      simp (maxSteps := 4000000) (disch := omega) only [I_lits, nz, nc, if_pos, if_neg, if_true, if_false, Option.bind_some, true_and, and_true, and_self, or_true, true_or, or_false, false_or, not_true_eq_false, not_false_eq_true, false_and, and_false, Bool.false_eq_true, decide_true, decide_false, eq_self, this, hr]
    · have : cyB (wfr N) (fun _ => True) j = false := cyB_f.mpr (fun q => hr (e4.mpr q.1))
      simp (maxSteps := 4000000) (disch := omega) only [I_lits, nz, nc, if_pos, if_neg, if_true, if_false, Option.bind_some, true_and, and_true, and_self, or_true, true_or, or_false, false_or, not_true_eq_false, not_false_eq_true, false_and, and_false, Bool.false_eq_true, decide_true, decide_false, eq_self, this, hr]) (by
    intro n v
    rw [f_X12_circles_L4]
    simp (maxSteps := 4000000) (disch := omega) only [I_lits, nz, nc, if_pos, if_neg, if_true, if_false, Option.bind_some, true_and, and_true, and_self, or_true, true_or, or_false, false_or, not_true_eq_false, not_false_eq_true, false_and, and_false, Bool.false_eq_true, decide_true, decide_false, eq_self]
    try rfl) F 0 (by omega) (by omega)
  rw [show f_X12_circles_L4 F τ F 0 0 = _ from this]
  rfl
/-- the marks of one chain -/
def Chn (f : Int → Int) (mk : Int → Int) (s : Int) (g : St) (i : Nat) : Prop := (∀ l, l < i → 0 ≤ fi f l s ∧ fi f l s < 400 ∧ mk (fi f l s) = -1 ∧ g.1 58 (fi f l s).toNat = I s) ∧ (∀ l k, l < k → k < i → fi f l s ≠ fi f k s) ∧ ∀ x, 0 ≤ x → x < 400 → (∀ l, l < i → x ≠ fi f l s) → g.1 58 x.toNat = I (mk x)
theorem c_chain (hK : KdV B) (hV : NetV B N) (hC : NtC B N σ 77) {mk : Int → Int} {s : Int} (s0 : 0 ≤ s) (s1 : s < 400) (hmk : ∀ x, 0 ≤ x → x < 400 → -1 ≤ mk x ∧ mk x < s) (c : Int32) : ∀ (n i : Nat) (g : St), i ≤ 400 → 400 - i < n → g.2 = σ.2 → (∀ k, k ≠ 58 → g.1 k = σ.1 k) → Chn (wfr N) mk s g i → ∃ g' i', f_X10_countCircles_L33 F c (I s) n (I (fi (wfr N) i s)) (I i) g = some (I (fi (wfr N) i' s), g') ∧ g'.2 = σ.2 ∧ (∀ k, k ≠ 58 → g'.1 k = σ.1 k) ∧ Chn (wfr N) mk s g' i' ∧ (fi (wfr N) i' s = -1 ∨ (0 ≤ fi (wfr N) i' s ∧ (mk (fi (wfr N) i' s) ≠ -1 ∨ ∃ l, l < i' ∧ fi (wfr N) i' s = fi (wfr N) l s))) := by
  intro n
  induction n with
  | zero => intro i g h1 h2; omega
  | succ n ih =>
    intro i g h1 h2 h3 h4 h5
    have hf := wfr_fn hK hV
    have hr := fi_r hf (a := s) (Or.inr ⟨s0, s1⟩) i
    have hi400 : i = 400 → fi (wfr N) i s = -1 ∨ ∃ l, l < i ∧ fi (wfr N) i s = fi (wfr N) l s := by
      intro e
      by_cases hx : fi (wfr N) i s = -1
      · exact Or.inl hx
      · right
        by_cases hex : ∃ l, l < i ∧ fi (wfr N) i s = fi (wfr N) l s
        · exact hex
        · exfalso
          have := piglt (s := i) (n := 400) (g := fun l => fi (wfr N) l s) (m := fi (wfr N) i s) (fun l hl => ⟨(h5.1 l hl).1, (h5.1 l hl).2.1, fun q => hex ⟨l, hl, q.symm⟩⟩) h5.2.1 (by omega) (by omega)
          omega
    rw [f_X10_countCircles_L33]
    unfold f_X11_isInside
    simp (maxSteps := 4000000) (disch := omega) only [I_lits, nz, nc]
    by_cases hx : fi (wfr N) i s = -1
    · rw [hx]
      simp (maxSteps := 4000000) (disch := omega) only [I_lits, nz, nc, if_pos, if_neg, if_true, if_false, Option.bind_some, true_and, and_true, and_self, or_true, true_or, or_false, false_or, not_true_eq_false, not_false_eq_true, false_and, and_false, Bool.false_eq_true, decide_true, decide_false, eq_self]
      refine ⟨g, i, by rw [hx], h3, h4, h5, Or.inl hx⟩
    · have hx0 : 0 ≤ fi (wfr N) i s ∧ fi (wfr N) i s < 400 := by
        rcases hr with q | q
        · exact absurd q hx
        · exact q
      by_cases hl : ∃ l, l < i ∧ fi (wfr N) i s = fi (wfr N) l s
      · obtain ⟨l, l1, l2⟩ := hl
        have hgs : g.1 58 (fi (wfr N) i s).toNat = I s := by rw [l2]; exact (h5.1 l l1).2.2.2
        by_cases h400 : (i : Int) < 400
        · simp (maxSteps := 4000000) (disch := omega) only [I_lits, nz, nc, if_pos, if_neg, if_true, if_false, Option.bind_some, true_and, and_true, and_self, or_true, true_or, or_false, false_or, not_true_eq_false, not_false_eq_true, false_and, and_false, Bool.false_eq_true, decide_true, decide_false, eq_self, h400, hx0.1, hx0.2, hgs, i01]
          exact ⟨g, i, rfl, h3, h4, h5, Or.inr ⟨hx0.1, Or.inr ⟨l, l1, l2⟩⟩⟩
        · simp (maxSteps := 4000000) (disch := omega) only [I_lits, nz, nc, if_pos, if_neg, if_true, if_false, Option.bind_some, true_and, and_true, and_self, or_true, true_or, or_false, false_or, not_true_eq_false, not_false_eq_true, false_and, and_false, Bool.false_eq_true, decide_true, decide_false, eq_self, h400]
          exact ⟨g, i, rfl, h3, h4, h5, Or.inr ⟨hx0.1, Or.inr ⟨l, l1, l2⟩⟩⟩
      · have h400 : (i : Int) < 400 := by
          by_cases q : i = 400
          · rcases hi400 q with w | w
            · exact absurd w hx
            · exact absurd w hl
          · omega
        have hgm := h5.2.2 _ hx0.1 hx0.2 (fun l l1 l2 => hl ⟨l, l1, l2⟩)
        have hmb := hmk _ hx0.1 hx0.2
        by_cases hm : mk (fi (wfr N) i s) = -1
        · have hC' : NtC B N (seti g 58 (fi (wfr N) i s).toNat (I s)) 77 := ntc_fr hC (fun a a1 a2 => by rw [seti_r (by omega), h4 a (by omega)])
          simp (maxSteps := 4000000) (disch := omega) only [I_lits, nz, nc, if_pos, if_neg, if_true, if_false, Option.bind_some, true_and, and_true, and_self, or_true, true_or, or_false, false_or, not_true_eq_false, not_false_eq_true, false_and, and_false, Bool.false_eq_true, decide_true, decide_false, eq_self, h400, hx0.1, hx0.2, hgm, hm, i01, c_waitsFor hK hV hC' hx0.1 hx0.2]
          have := ih (i + 1) (seti g 58 (fi (wfr N) i s).toNat (I s)) (by omega) (by omega) h3 (fun k hk => by rw [seti_r hk, h4 k hk]) (by
            refine ⟨?_, ?_, ?_⟩
            · intro l hl'
              by_cases e : l = i
              · subst e
                exact ⟨hx0.1, hx0.2, hm, by rw [seti1, if_pos ⟨rfl, rfl⟩]⟩
              · have hh := h5.1 l (by omega)
                refine ⟨hh.1, hh.2.1, hh.2.2.1, ?_⟩
                rw [seti1]
                by_cases e2 : (fi (wfr N) l s).toNat = (fi (wfr N) i s).toNat
                · rw [if_pos ⟨rfl, e2⟩]
                · rw [if_neg (fun q => e2 q.2)]; exact hh.2.2.2
            · intro l k lk hk
              by_cases e : k = i
              · subst e
                exact fun q => hl ⟨l, lk, q.symm⟩
              · exact h5.2.1 l k lk (by omega)
            · intro x x0 x1 hxl
              rw [seti1, if_neg (fun q => hxl i (by omega) (by omega))]
              exact h5.2.2 x x0 x1 (fun l hl' => hxl l (by omega)))
          obtain ⟨g', i', e1, e2⟩ := this
          exact ⟨g', i', e1, e2⟩
        · simp (maxSteps := 4000000) (disch := omega) only [I_lits, nz, nc, if_pos, if_neg, if_true, if_false, Option.bind_some, true_and, and_true, and_self, or_true, true_or, or_false, false_or, not_true_eq_false, not_false_eq_true, false_and, and_false, Bool.false_eq_true, decide_true, decide_false, eq_self, h400, hx0.1, hx0.2, hgm, hm, i01]
          exact ⟨g, i, rfl, h3, h4, h5, Or.inr ⟨hx0.1, Or.inl hm⟩⟩
theorem c_circ_L (hK : KdV B) (hV : NetV B N) (hC : NtC B N σ 77) (hF : 10000 ≤ F) {t : Int} (t0 : 0 ≤ t) (t1 : t ≤ 400) (ht : σ.1 77 6 = I t) : ∀ (n : Nat) (s : Int) (mk : Int → Int) (g : St), 0 ≤ s → s ≤ t → t - s < n → g.2 = σ.2 → (∀ k, k ≠ 58 → g.1 k = σ.1 k) → (∀ x, 0 ≤ x → x < 400 → g.1 58 x.toNat = I (mk x) ∧ -1 ≤ mk x ∧ mk x < s ∧ (mk x ≠ -1 → wfr N x = -1 ∨ mk (wfr N x) ≠ -1) ∧ (x < s → mk x ≠ -1)) → ∃ g' M, f_X10_countCircles_L12 F n (I (cnt (cyB (wfr N) (fun x => mk x ≠ -1)) 400)) (I s) g = some (I (cnt (cyB (wfr N) M) 400), g') ∧ g'.2 = σ.2 ∧ (∀ k, k ≠ 58 → g'.1 k = σ.1 k) ∧ ∀ x, 0 ≤ x → x < t → M x := by
  intro n
  induction n with
  | zero => intro s mk g a b c; omega
  | succ n ih =>
    intro s mk g s0 s1 hn h3 h4 h5
    have hf := wfr_fn hK hV
    rw [f_X10_countCircles_L12, h4 77 (by omega), ht]
    by_cases hs : s = t
    · subst hs
      simp (maxSteps := 4000000) (disch := omega) only [I_lits, nz, nc, if_pos, if_neg, if_true, if_false, Option.bind_some, true_and, and_true, and_self, or_true, true_or, or_false, false_or, not_true_eq_false, not_false_eq_true, false_and, and_false, Bool.false_eq_true, decide_true, decide_false, eq_self, Int.lt_irrefl]
      exact ⟨g, _, rfl, h3, h4, fun x x0 x1 => (h5 x x0 (by omega)).2.2.2.2 x1⟩
    · have a1 : 0 ≤ s + 1 := by omega
      have a2 : s + 1 ≤ t := by omega
      have a3 : t - (s + 1) < n := by omega
      simp (maxSteps := 4000000) (disch := omega) only [I_lits, nz, nc, if_pos, if_neg, if_true, if_false, Option.bind_some, true_and, and_true, and_self, or_true, true_or, or_false, false_or, not_true_eq_false, not_false_eq_true, false_and, and_false, Bool.false_eq_true, decide_true, decide_false, eq_self]
      obtain ⟨g', i', e1, e2, e3, e4, e5⟩ := c_chain (F := F) hK hV hC (mk := mk) s0 (by omega) (fun x x0 x1 => ⟨(h5 x x0 x1).2.1, (h5 x x0 x1).2.2.1⟩) (I (cnt (cyB (wfr N) (fun x => mk x ≠ -1)) 400)) F 0 g (by omega) (by omega) h3 h4 ⟨fun l hl => by omega, fun l k _ hk => by omega, fun x x0 x1 _ => (h5 x x0 x1).1⟩
      have e1' : f_X10_countCircles_L33 F (I (cnt (cyB (wfr N) (fun x => mk x ≠ -1)) 400)) (I s) F (I s) (I 0) g = some (I (fi (wfr N) i' s), g') := e1
      have hr := fi_r hf (a := s) (Or.inr ⟨s0, by omega⟩) i'
      rw [e1']
      unfold f_X11_isInside
      simp (maxSteps := 4000000) (disch := omega) only [I_lits, nz, nc, if_pos, if_neg, if_true, if_false, Option.bind_some, true_and, and_true, and_self, or_true, true_or, or_false, false_or, not_true_eq_false, not_false_eq_true, false_and, and_false, Bool.false_eq_true, decide_true, decide_false, eq_self]
      -- the new marks
      have hcd : ∀ x, Decidable (∃ l, l < i' ∧ x = fi (wfr N) l s) := fun x => Classical.propDecidable _
      let mk' : Int → Int := fun x => @ite _ (∃ l, l < i' ∧ x = fi (wfr N) l s) (hcd x) s (mk x)
      have mk'_in : ∀ l, l < i' → mk' (fi (wfr N) l s) = s := fun l hl => if_pos ⟨l, hl, rfl⟩
      have mk'_out : ∀ x, (∀ l, l < i' → x ≠ fi (wfr N) l s) → mk' x = mk x := fun x hx => if_neg (fun ⟨l, l1, l2⟩ => hx l l1 l2)
      have cls : ∀ x, 0 ≤ x → x < 400 → mk' x ≠ -1 → wfr N x = -1 ∨ mk' (wfr N x) ≠ -1 := by
        intro x x0 x1 hx
        by_cases hin : ∃ l, l < i' ∧ x = fi (wfr N) l s
        · obtain ⟨l, l1, rfl⟩ := hin
          by_cases e : l + 1 < i'
          · right
            have := mk'_in (l + 1) e
            rw [show wfr N (fi (wfr N) l s) = fi (wfr N) (l + 1) s from rfl, this]
            omega
          · have e' : l + 1 = i' := by omega
            rw [show wfr N (fi (wfr N) l s) = fi (wfr N) (l + 1) s from rfl, e']
            rcases e5 with q | ⟨q0, q | ⟨l', l1', l2'⟩⟩
            · exact Or.inl q
            · right
              by_cases hin' : ∃ l, l < i' ∧ fi (wfr N) i' s = fi (wfr N) l s
              · obtain ⟨l', a, b⟩ := hin'
                rw [b, mk'_in l' a]; omega
              · rw [mk'_out _ (fun l' a b => hin' ⟨l', a, b⟩)]; exact q
            · right
              rw [l2', mk'_in l' l1']; omega
        · have hx' := mk'_out x (fun l a b => hin ⟨l, a, b⟩)
          rw [hx'] at hx
          rcases (h5 x x0 x1).2.2.2.1 hx with q | q
          · exact Or.inl q
          · right
            by_cases hin' : ∃ l, l < i' ∧ wfr N x = fi (wfr N) l s
            · obtain ⟨l', a, b⟩ := hin'
              rw [b, mk'_in l' a]; omega
            · rw [mk'_out _ (fun l' a b => hin' ⟨l', a, b⟩)]; exact q
      have inv' : ∀ x, 0 ≤ x → x < 400 → g'.1 58 x.toNat = I (mk' x) ∧ -1 ≤ mk' x ∧ mk' x < s + 1 ∧ (mk' x ≠ -1 → wfr N x = -1 ∨ mk' (wfr N x) ≠ -1) ∧ (x < s + 1 → mk' x ≠ -1) := by
        intro x x0 x1
        refine ⟨?_, ?_, ?_, cls x x0 x1, ?_⟩
        · by_cases hin : ∃ l, l < i' ∧ x = fi (wfr N) l s
          · obtain ⟨l, l1, rfl⟩ := hin
            rw [mk'_in l l1]; exact (e4.1 l l1).2.2.2
          · rw [mk'_out x (fun l a b => hin ⟨l, a, b⟩)]
            exact e4.2.2 x x0 x1 (fun l a b => hin ⟨l, a, b⟩)
        · by_cases hin : ∃ l, l < i' ∧ x = fi (wfr N) l s
          · obtain ⟨l, l1, rfl⟩ := hin
            rw [mk'_in l l1]; omega
          · rw [mk'_out x (fun l a b => hin ⟨l, a, b⟩)]; exact (h5 x x0 x1).2.1
        · by_cases hin : ∃ l, l < i' ∧ x = fi (wfr N) l s
          · obtain ⟨l, l1, rfl⟩ := hin
            rw [mk'_in l l1]; omega
          · rw [mk'_out x (fun l a b => hin ⟨l, a, b⟩)]; have := (h5 x x0 x1).2.2.1; omega
        · intro hxs
          by_cases hin : ∃ l, l < i' ∧ x = fi (wfr N) l s
          · obtain ⟨l, l1, rfl⟩ := hin
            rw [mk'_in l l1]; omega
          · rw [mk'_out x (fun l a b => hin ⟨l, a, b⟩)]
            by_cases e : x = s
            · subst e
              by_cases hi : i' = 0
              · subst hi
                rcases e5 with q | ⟨q0, q | ⟨l', l1', l2'⟩⟩
                · have q' : x = -1 := q
                  omega
                · exact q
                · omega
              · exact absurd ⟨0, by omega, rfl⟩ hin
            · exact (h5 x x0 x1).2.2.2.2 (by omega)
      -- the count
      have key : ∃ d : Int, (d = 0 ∨ d = 1) ∧ (d = 1 ↔ 0 ≤ fi (wfr N) i' s ∧ fi (wfr N) i' s < 400 ∧ g'.1 58 (fi (wfr N) i' s).toNat = I s) ∧ cnt (cyB (wfr N) (fun x => mk' x ≠ -1)) 400 = cnt (cyB (wfr N) (fun x => mk x ≠ -1)) 400 + d := by
        by_cases hcl : ∃ l, l < i' ∧ fi (wfr N) i' s = fi (wfr N) l s
        · obtain ⟨l, l1, l2⟩ := hcl
          refine ⟨1, Or.inr rfl, ⟨fun _ => ?_, fun _ => rfl⟩, ?_⟩
          · rw [l2]; exact ⟨(e4.1 l l1).1, (e4.1 l l1).2.1, (e4.1 l l1).2.2.2⟩
          · obtain ⟨j, j1, j2, j3⟩ := cyc_one hf l1 (fun j hj => (e4.1 j hj).1) e4.2.1 l2
            have hj := e4.1 j j1
            have := cnt_one (p := cyB (wfr N) (fun x => mk x ≠ -1)) (q := cyB (wfr N) (fun x => mk' x ≠ -1)) (a := fi (wfr N) j s) 400 hj.1 (by
              intro x x0 x1 hx
              by_cases hin : ∃ l, l < i' ∧ x = fi (wfr N) l s
              · obtain ⟨k, k1, rfl⟩ := hin
                have hnc : ¬ cyc (wfr N) (fi (wfr N) k s) := fun q => hx (by rw [j3 k k1 q])
                rw [cyB_f.mpr (fun q => hnc q.1), cyB_f.mpr (fun q => hnc q.1)]
              · have hmo := mk'_out x (fun l a b => hin ⟨l, a, b⟩)
                rw [Bool.eq_iff_iff, cyB_t, cyB_t]
                show cyc (wfr N) x ∧ mk' x ≠ -1 ↔ cyc (wfr N) x ∧ mk x ≠ -1
                rw [hmo]) (cyB_f.mpr (fun q => q.2 hj.2.2.1)) (cyB_t.mpr ⟨j2, by rw [mk'_in j j1]; omega⟩)
            rw [this, if_pos (show fi (wfr N) j s < ((400 : Nat) : Int) from by have := hj.2.1; omega)]
        · refine ⟨0, Or.inl rfl, ⟨fun q => by omega, fun q => ?_⟩, ?_⟩
          · exfalso
            have := e4.2.2 _ q.1 q.2.1 (fun l a b => hcl ⟨l, a, b⟩)
            rw [q.2.2] at this
            have hb := h5 _ q.1 q.2.1
            have := (I_eq (by omega) (by omega) (by omega) (by omega)).mp this
            omega
          · rw [Int.add_zero]
            have hM : ∀ x, (0 ≤ x ∧ x < 400 ∧ mk x ≠ -1) → wfr N x = -1 ∨ (0 ≤ wfr N x ∧ wfr N x < 400 ∧ mk (wfr N x) ≠ -1) := by
              intro x hx
              rcases hf.1 x with q | q
              · exact Or.inl q
              · rcases (h5 x hx.1 hx.2.1).2.2.2.1 hx.2.2 with w | w
                · exact Or.inl w
                · exact Or.inr ⟨q.1, q.2, w⟩
            have hnone := cyc_none hf (M := fun x => 0 ≤ x ∧ x < 400 ∧ mk x ≠ -1) hM (s := s) (i := i') (fun l hl => ⟨(e4.1 l hl).1, fun q => q.2.2 (e4.1 l hl).2.2.1⟩) (by
              rcases e5 with q | ⟨q0, q | q⟩
              · exact Or.inl q
              · exact Or.inr ⟨q0, by omega, q⟩
              · exact absurd q hcl)
            apply cnt_c
            intro x x0 x1
            by_cases hin : ∃ l, l < i' ∧ x = fi (wfr N) l s
            · obtain ⟨k, k1, rfl⟩ := hin
              rw [cyB_f.mpr (fun q => hnone k k1 q.1), cyB_f.mpr (fun q => hnone k k1 q.1)]
            · have hmo := mk'_out x (fun l a b => hin ⟨l, a, b⟩)
              rw [Bool.eq_iff_iff, cyB_t, cyB_t]
              show cyc (wfr N) x ∧ mk' x ≠ -1 ↔ cyc (wfr N) x ∧ mk x ≠ -1
              rw [hmo]
      obtain ⟨d, d1, d2, d3⟩ := key
      have fin := ih (s + 1) mk' g' a1 a2 a3 e2 e3 inv'
      clear e5 inv' cls mk'_in mk'_out
      rw [d3] at fin
      have hc0 := cnt_b (cyB (wfr N) (fun x => mk x ≠ -1)) 400
      by_cases hx : 0 ≤ fi (wfr N) i' s ∧ fi (wfr N) i' s < 400
      · by_cases hg : g'.1 58 (fi (wfr N) i' s).toNat = I s
        · have : d = 1 := d2.mpr ⟨hx.1, hx.2, hg⟩
          rw [this] at fin
          simp (maxSteps := 4000000) (disch := omega) only [I_lits, nz, nc, if_pos, if_neg, if_true, if_false, Option.bind_some, true_and, and_true, and_self, or_true, true_or, or_false, false_or, not_true_eq_false, not_false_eq_true, false_and, and_false, Bool.false_eq_true, decide_true, decide_false, eq_self, hx.1, hx.2, hg, i01]
          exact fin
        · have : d = 0 := by
            rcases d1 with q | q
            · exact q
            · exact absurd (d2.mp q).2.2 hg
          rw [this, Int.add_zero] at fin
          simp (maxSteps := 4000000) (disch := omega) only [I_lits, nz, nc, if_pos, if_neg, if_true, if_false, Option.bind_some, true_and, and_true, and_self, or_true, true_or, or_false, false_or, not_true_eq_false, not_false_eq_true, false_and, and_false, Bool.false_eq_true, decide_true, decide_false, eq_self, hx.1, hx.2, hg, i01]
          exact fin
      · have : d = 0 := by
          rcases d1 with q | q
          · exact q
          · exact absurd ⟨(d2.mp q).1, (d2.mp q).2.1⟩ hx
        rw [this, Int.add_zero] at fin
        simp (maxSteps := 4000000) (disch := omega) only [I_lits, nz, nc, if_pos, if_neg, if_true, if_false, Option.bind_some, true_and, and_true, and_self, or_true, true_or, or_false, false_or, not_true_eq_false, not_false_eq_true, false_and, and_false, Bool.false_eq_true, decide_true, decide_false, eq_self, hx]
        exact fin
theorem c_circles (hK : KdV B) (hV : NetV B N) (hC : NtC B N σ 77) (hF : 10000 ≤ F) : ∃ σ', f_X10_countCircles F σ = some (I (cnt (cyB (wfr N) (fun _ => True)) 400), σ') ∧ σ'.2 = σ.2 ∧ ∀ k, k ≠ 58 → σ'.1 k = σ.1 k := by
  unfold f_X10_countCircles
  have hf := wfr_fn hK hV
  obtain ⟨s1, f1, f2, f3, f4⟩ := c_fill (F := F) (a := 58) (na := 400) (v := (-1 : Int32)) (σ := σ) (by omega) (by omega)
  rw [f1, Option.bind_some]
  obtain ⟨t, t0, t1, t2, t3⟩ := hC.2.2.2.2.2.2
  have hz : cnt (cyB (wfr N) (fun x => (-1 : Int) ≠ -1)) 400 = 0 := by
    have : ∀ n : Nat, cnt (cyB (wfr N) (fun x => (-1 : Int) ≠ -1)) n = 0 := by
      intro n
      induction n with
      | zero => rfl
      | succ n ih =>
        rw [cnt, ih, cyB_f.mpr (fun q => absurd rfl q.2)]
        rfl
    exact this 400
  obtain ⟨g', M, e1, e2, e3, e4⟩ := c_circ_L (F := F) hK hV hC hF t0 t1 t2 F 0 (fun _ => -1) s1 (by omega) (by omega) (by omega) f2 f3 (fun x x0 x1 => ⟨by rw [f4 _ (by omega)]; rfl, by omega, by omega, fun q => absurd rfl q, fun q => by omega⟩)
  have e1' : f_X10_countCircles_L12 F F (0 : Int32) (0 : Int32) s1 = some (I (cnt (cyB (wfr N) M) 400), g') := by
    rw [← e1, hz]
    rfl
  rw [e1']
  refine ⟨g', ?_, e2, e3⟩
  rw [Option.bind_some]
  have hce : cnt (cyB (wfr N) M) 400 = cnt (cyB (wfr N) (fun _ => True)) 400 := ?_
  · show some (I (cnt (cyB (wfr N) M) 400), g') = _
    rw [hce]
  apply cnt_c
  intro x x0 x1
  rw [Bool.eq_iff_iff, cyB_t, cyB_t]
  constructor
  · rintro ⟨q, _⟩; exact ⟨q, trivial⟩
  · rintro ⟨q, _⟩
    refine ⟨q, ?_⟩
    by_cases hx : x < t
    · exact e4 x x0 hx
    · exfalso
      have hk := t3 x (by omega) (by omega)
      obtain ⟨_, m, m1, m2, _⟩ := q
      obtain ⟨m', rfl⟩ : ∃ m', m = m' + 1 := ⟨m - 1, by omega⟩
      rw [fi_add] at m2
      have hw : fi (wfr N) 1 x = -1 := by
        show wfr N x = -1
        unfold wfr
        exact if_neg (by omega)
      rw [hw, fi_m1 hf] at m2
      omega
theorem op_count (h : Sim σ τ q) (hF : 10000 ≤ F) (p : Int32) : Op (f_X11_count F p σ) ((f_X12_count F p τ).map (fun r => (r, τ))) q := by
  have hS := h
  obtain ⟨B, N, h1, h2, h3, h4, h5, h6, h7, h8⟩ := h
  obtain ⟨hK, hR, hV, hBC, hBM, hNC, hNM⟩ := h1
  unfold f_X11_count f_X12_count
  by_cases p0 : p = 0
  · rw [if_pos p0, if_pos p0]
    refine ⟨_, _, _, rfl, ?_, hS⟩
    rw [hBC.1.1, hBM.1.1]; rfl
  rw [if_neg p0, if_neg p0]
  by_cases p1 : p = 1
  · rw [if_pos p1, if_pos p1]
    refine ⟨_, _, _, rfl, ?_, hS⟩
    rw [hBC.2.1, hBM.2.1]; rfl
  rw [if_neg p1, if_neg p1]
  by_cases p2 : p = 2
  · rw [if_pos p2, if_pos p2]
    refine ⟨_, _, _, rfl, ?_, hS⟩
    rw [m_agentMany hNM.1 (b16 hK hV) hF, hNC.2.2.2.1]; rfl
  rw [if_neg p2, if_neg p2]
  by_cases p3 : p = 3
  · rw [if_pos p3, if_pos p3]
    refine ⟨_, _, _, rfl, ?_, hS⟩
    rw [hNC.2.2.2.2.1, hNM.2.2.2.1]; rfl
  rw [if_neg p3, if_neg p3]
  by_cases p4 : p = 4
  · rw [if_pos p4, if_pos p4]
    refine ⟨_, _, _, rfl, ?_, hS⟩
    rw [hNC.2.2.2.2.2.1, hNM.2.2.2.2]; rfl
  rw [if_neg p4, if_neg p4]
  by_cases p5 : p = 5
  · rw [if_pos p5, if_pos p5]
    have e1 : f_X0_countPairs F 1 σ = _ := c_countPairs hK hR hV hBC hNC true hF
    have e2 : f_X12_pairs F 1 τ = _ := m_pairs hK hR hV hBM hNM true hF
    rw [e1, e2]
    exact ⟨_, _, _, rfl, rfl, hS⟩
  rw [if_neg p5, if_neg p5]
  by_cases p6 : p = 6
  · rw [if_pos p6, if_pos p6]
    have e1 : f_X0_countPairs F 0 σ = _ := c_countPairs hK hR hV hBC hNC false hF
    have e2 : f_X12_pairs F 0 τ = _ := m_pairs hK hR hV hBM hNM false hF
    rw [e1, e2]
    exact ⟨_, _, _, rfl, rfl, hS⟩
  rw [if_neg p6, if_neg p6]
  by_cases p7 : p = 7
  · rw [if_pos p7, if_pos p7]
    obtain ⟨σ', e1, e2, e3⟩ := c_circles hK hV hNC hF
    rw [e1, m_circles hK hV hNM hF]
    refine ⟨_, _, _, rfl, rfl, sim_fr hS ⟨fun a _ => e3 a (by omega), by rw [e3 1 (by omega)], by rw [e3 9 (by omega)], by rw [e2], by rw [e2]⟩ eqm_rfl⟩
  rw [if_neg p7, if_neg p7]
  obtain ⟨n, m, jm, j0, j1, j2, j3, j4, j5, j6, j7, j8, j9, j10, j11, j12⟩ := h4
  by_cases p8 : p = 8
  · rw [if_pos p8, if_pos p8]
    refine ⟨_, _, _, rfl, ?_, hS⟩
    rw [j2, j3]; rfl
  rw [if_neg p8, if_neg p8]
  by_cases p9 : p = 9
  · rw [if_pos p9, if_pos p9]
    refine ⟨_, _, _, rfl, ?_, hS⟩
    rw [j7, j8]; rfl
  rw [if_neg p9, if_neg p9]
  by_cases p10 : p = 10
  · rw [if_pos p10, if_pos p10]
    refine ⟨_, _, _, rfl, ?_, hS⟩
    rw [j9]; rfl
  rw [if_neg p10, if_neg p10]
  by_cases p11 : p = 11
  · rw [if_pos p11, if_pos p11, j10]
    rcases j11 with q | q
    · rw [if_pos q, q]
      exact ⟨_, _, _, rfl, rfl, hS⟩
    · rw [if_neg (by rw [q]; decide), q]
      exact ⟨_, _, _, rfl, rfl, hS⟩
  rw [if_neg p11, if_neg p11]
  by_cases p12 : p = 12
  · rw [if_pos p12, if_pos p12]
    obtain ⟨n', a1, a2, a3, a4, a5⟩ := h3
    refine ⟨_, _, _, rfl, ?_, hS⟩
    rw [a3, a4]; rfl
  rw [if_neg p12, if_neg p12]
  exact ⟨_, _, _, rfl, rfl, hS⟩
end CO
