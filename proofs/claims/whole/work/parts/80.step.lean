/-! step -/
def SimB (B : BkT) (N : NtT) (σ τ : St) (q : Int) : Prop := Cor B N σ τ ∧ TpR σ τ ∧ OuR σ τ ∧ JoR N σ τ q ∧ (∀ s, 0 ≤ s → s < 4 → ShR B σ τ s) ∧ σ.1 1 7 = τ.1 0 2 ∧ σ.2 0 9 = τ.2 0 24 ∧ ∀ j, j < 80 → τ.1 20 j = 0 ∨ τ.1 20 j = 1
/-- what a step leaves alone -/
def Kep (N N' : NtT) (n b : Int) (σ τ σ' τ' : St) : Prop := (∀ m, 0 ≤ m → m < 400 → m ≠ n → m ≠ b → 0 ≤ Nk N m → Nk N' m = Nk N m ∧ (Nw N (5 * m) / 5 ≠ n → Nw N (5 * m) / 5 ≠ b → Nw N' (5 * m) = Nw N (5 * m))) ∧ σ'.1 55 = σ.1 55 ∧ τ'.1 43 = τ.1 43 ∧ σ'.1 36 3 = σ.1 36 3 ∧ σ'.1 36 4 = σ.1 36 4 ∧ (∀ j, j = 22 ∨ j = 23 → τ'.1 0 j = τ.1 0 j)
section STE
variable {B : BkT} {N : NtT} {σ τ : St} {q : Int} {F : Nat}
theorem s_step (h : SimB B N σ τ q) (hF : 10000 ≤ F) (hq : q < 2147483000) {n : Int} (n0 : 0 ≤ n) (n1 : n < 400) (hr : 0 ≤ alv B N n) : (f_X11_takeStep F (I n) σ = some (0, σ) ∧ f_X12_doStep F (I n) (I (mate N n)) τ = some (0, τ)) ∨ ∃ N' σ' τ', f_X11_takeStep F (I n) σ = some (1, σ') ∧ f_X12_doStep F (I n) (I (mate N n)) τ = some (1, τ') ∧ SimB B N' σ' τ' (q + 1) ∧ Kep N N' n (mate N n) σ τ σ' τ' := by
  obtain ⟨hCor, h2, h3, h4, h5, h6, h7, h8⟩ := h
  obtain ⟨hK, hR, hV, hBC, hBM, hNC, hNM⟩ := id hCor
  have hmate : 0 ≤ mate N n ∧ mate N n < 400 ∧ 0 ≤ Nk N (mate N n) ∧ 0 ≤ Nk N n ∧ Nw N (5 * n) = 5 * mate N n := by
    rcases mate_b hK hV n0 n1 with w | w
    · unfold alv at hr
      rw [if_pos w] at hr
      omega
    · exact w
  obtain ⟨b0, b1, kb, kn, wn⟩ := hmate
  have hLn := liv_head hK hV n0 n1 kn
  have hwn := hV.2.2.2 _ hLn
  rw [wn] at hwn
  have wb := hwn.2.1
  have hnb : n ≠ mate N n := fun e => hwn.2.2 (by rw [← e])
  have kn' := hV.2.2.1 n n0 n1
  have kb' := hV.2.2.1 _ b0 b1
  have h16 := hK.2.1
  have ealv : alv B N n = Bro B (16 * Nk N n + Nk N (mate N n)) := if_neg (by omega)
  have hro := hR.2.2.1 _ _ kn kn'.2 kb kb'.2
  rw [← ealv] at hro
  have hrn := hR.2.1
  have hra := hR.2.2.2.1 _ hr hro.2.1
  have hcn := cnt_b (fun x => decide (0 ≤ Nk N x)) 400
  have hcn' : 0 ≤ Ncn N ∧ Ncn N ≤ 400 := hcn
  have hAin : f_X8_agentsIn (I (alv B N n)) σ = some (I (Bra B (alv B N n))) := by
    have e := (hBC.2.2.2.1 _ hr hro.2.1).2.1
    unfold f_X8_agentsIn f_X8_has
    rw [hBC.2.1]
    simp (maxSteps := 4000000) (disch := omega) only [I_lits, nz, nc, if_pos, if_neg, if_true, if_false, Option.bind_some, true_and, and_true, and_self, or_true, true_or, or_false, false_or, not_true_eq_false, not_false_eq_true, false_and, and_false, Bool.false_eq_true, decide_true, decide_false, eq_self, i01, hr, hro.2.1, e]
  have mra : τ.1 8 (alv B N n).toNat = I (Bra B (alv B N n)) := (hBM.2.2.2.1 _ hr hro.2.1).2.2.1
  have mrf := m_ruleFor hK hV hBM hNM n0 n1 b0 b1 kn kb
  rw [← ealv] at mrf
  have inr : inb (I (alv B N n)) 60 = true := (I_inb (by omega) (by omega)).mpr ⟨by omega, by omega⟩
  have ixr : ix (I (alv B N n)) = (alv B N n).toNat := I_ix (by omega) (by omega)
  have hne1 : ¬ (I (alv B N n) = (-1 : Int32)) := fun w => by
    have := (I_eq (by omega) (by omega) (by omega) (by omega)).mp (show I (alv B N n) = I (-1) from w)
    omega
  have esum : ∀ x : Int, I x - (2 : Int32) + I (Bra B (alv B N n)) = I (x - 2 + Bra B (alv B N n)) := fun x => by rw [show (2 : Int32) = I 2 from rfl, I_sub, I_add]
  by_cases hroom : Ncn N - 2 + Bra B (alv B N n) ≤ 400
  · right
    have hnl : ¬ ((400 : Int32) < I (Ncn N - 2 + Bra B (alv B N n))) := by
      rw [show (400 : Int32) = I 400 from rfl, I_lt (by omega) (by omega) (by omega) (by omega)]; omega
    -- the lesser and the greater
    obtain ⟨lo, hi, hlh, elo, ehi, elo', ehi'⟩ : ∃ lo hi : Int, ((lo = n ∧ hi = mate N n ∧ n < mate N n) ∨ (lo = mate N n ∧ hi = n ∧ mate N n < n)) ∧ f_J9_min_7cf53 (I n) (I (mate N n)) = I lo ∧ f_J9_max_7cf53 (I n) (I (mate N n)) = I hi ∧ (if I n < I (mate N n) then some (I n) else some (I (mate N n))) = some (I lo) ∧ (if I n < I (mate N n) then some (I (mate N n)) else some (I n)) = some (I hi) := by
      unfold f_J9_min_7cf53 f_J9_max_7cf53
      by_cases q : n < mate N n
      · refine ⟨n, mate N n, Or.inl ⟨rfl, rfl, q⟩, ?_, ?_, ?_, ?_⟩
        · simp (maxSteps := 4000000) (disch := omega) only [I_lits, nz, nc, if_pos, if_neg, if_true, if_false, Option.bind_some, true_and, and_true, and_self, or_true, true_or, or_false, false_or, not_true_eq_false, not_false_eq_true, false_and, and_false, Bool.false_eq_true, decide_true, decide_false, eq_self, show n ≤ mate N n from by omega]
        · simp (maxSteps := 4000000) (disch := omega) only [I_lits, nz, nc, if_pos, if_neg, if_true, if_false, Option.bind_some, true_and, and_true, and_self, or_true, true_or, or_false, false_or, not_true_eq_false, not_false_eq_true, false_and, and_false, Bool.false_eq_true, decide_true, decide_false, eq_self, show ¬ mate N n ≤ n from by omega]
        · simp (maxSteps := 4000000) (disch := omega) only [I_lits, nz, nc, if_pos, if_neg, if_true, if_false, Option.bind_some, true_and, and_true, and_self, or_true, true_or, or_false, false_or, not_true_eq_false, not_false_eq_true, false_and, and_false, Bool.false_eq_true, decide_true, decide_false, eq_self, q]
        · simp (maxSteps := 4000000) (disch := omega) only [I_lits, nz, nc, if_pos, if_neg, if_true, if_false, Option.bind_some, true_and, and_true, and_self, or_true, true_or, or_false, false_or, not_true_eq_false, not_false_eq_true, false_and, and_false, Bool.false_eq_true, decide_true, decide_false, eq_self, q]
      · refine ⟨mate N n, n, Or.inr ⟨rfl, rfl, by omega⟩, ?_, ?_, ?_, ?_⟩
        · simp (maxSteps := 4000000) (disch := omega) only [I_lits, nz, nc, if_pos, if_neg, if_true, if_false, Option.bind_some, true_and, and_true, and_self, or_true, true_or, or_false, false_or, not_true_eq_false, not_false_eq_true, false_and, and_false, Bool.false_eq_true, decide_true, decide_false, eq_self, show ¬ n ≤ mate N n from by omega]
        · simp (maxSteps := 4000000) (disch := omega) only [I_lits, nz, nc, if_pos, if_neg, if_true, if_false, Option.bind_some, true_and, and_true, and_self, or_true, true_or, or_false, false_or, not_true_eq_false, not_false_eq_true, false_and, and_false, Bool.false_eq_true, decide_true, decide_false, eq_self, show mate N n ≤ n from by omega]
        · simp (maxSteps := 4000000) (disch := omega) only [I_lits, nz, nc, if_pos, if_neg, if_true, if_false, Option.bind_some, true_and, and_true, and_self, or_true, true_or, or_false, false_or, not_true_eq_false, not_false_eq_true, false_and, and_false, Bool.false_eq_true, decide_true, decide_false, eq_self, q]
        · simp (maxSteps := 4000000) (disch := omega) only [I_lits, nz, nc, if_pos, if_neg, if_true, if_false, Option.bind_some, true_and, and_true, and_self, or_true, true_or, or_false, false_or, not_true_eq_false, not_false_eq_true, false_and, and_false, Bool.false_eq_true, decide_true, decide_false, eq_self, q]
    have hlo : 0 ≤ lo ∧ lo < 400 ∧ 0 ≤ hi ∧ hi < 400 ∧ lo ≠ hi ∧ 0 ≤ Nk N lo ∧ 0 ≤ Nk N hi ∧ Nw N (5 * lo) = 5 * hi ∧ Nw N (5 * hi) = 5 * lo ∧ Nk N lo < Bkn B ∧ Nk N hi < Bkn B := by
      rcases hlh with ⟨rfl, rfl, q⟩ | ⟨rfl, rfl, q⟩
      · exact ⟨n0, n1, b0, b1, hnb, kn, kb, wn, wb, kn'.2, kb'.2⟩
      · exact ⟨b0, b1, n0, n1, fun e => hnb e.symm, kb, kn, wb, wn, kb'.2, kn'.2⟩
    obtain ⟨l0, l1, g0, g1, lne, kl, kg, wl, wg, kl', kg'⟩ := hlo
    have hsides : (Brs B (2 * alv B N n) = Nk N lo ∧ Brs B (2 * alv B N n + 1) = Nk N hi) ∨ (Brs B (2 * alv B N n) = Nk N hi ∧ Brs B (2 * alv B N n + 1) = Nk N lo) := by
      have := hro.2.2 hr
      rcases hlh with ⟨rfl, rfl, q⟩ | ⟨rfl, rfl, q⟩
      · exact this
      · exact this.symm
    obtain ⟨fi, se, hfs, hfk, hsk⟩ : ∃ fi se : Int, ((fi = lo ∧ se = hi ∧ Nk N lo = Brs B (2 * alv B N n)) ∨ (fi = hi ∧ se = lo ∧ Nk N lo ≠ Brs B (2 * alv B N n))) ∧ Brs B (2 * alv B N n) = Nk N fi ∧ Brs B (2 * alv B N n + 1) = Nk N se := by
      by_cases q : Nk N lo = Brs B (2 * alv B N n)
      · refine ⟨lo, hi, Or.inl ⟨rfl, rfl, q⟩, q.symm, ?_⟩
        rcases hsides with w | w
        · exact w.2
        · rw [w.2, q, w.1]
      · refine ⟨hi, lo, Or.inr ⟨rfl, rfl, q⟩, ?_, ?_⟩
        · rcases hsides with w | w
          · exact absurd w.1.symm q
          · exact w.1
        · rcases hsides with w | w
          · exact absurd w.1.symm q
          · exact w.2
    have hSH : SH B N fi se (alv B N n) := by
      refine ⟨⟨hK, hR, hV⟩, ?_, ?_, ?_, hr, hro.2.1, hfk, hsk⟩
      · rcases hfs with ⟨rfl, rfl, _⟩ | ⟨rfl, rfl, _⟩
        · exact ⟨l0, l1, g0, g1, lne, kl, kg⟩
        · exact ⟨g0, g1, l0, l1, fun e => lne e.symm, kg, kl⟩
      · rcases hfs with ⟨rfl, rfl, _⟩ | ⟨rfl, rfl, _⟩
        · exact wl
        · exact wg
      · rcases hfs with ⟨rfl, rfl, _⟩ | ⟨rfl, rfl, _⟩
        · exact wg
        · exact wl
    obtain ⟨jn, jm, jm0, j0, j1, j2, j3, j4, j5, j6, j7, j8, j9, j10, j11, j12⟩ := id h4
    have ckl := c_kindOf hNC (n := lo) (by omega) (by omega)
    have ckh := c_kindOf hNC (n := hi) (by omega) (by omega)
    rw [if_pos ⟨l0, l1⟩] at ckl
    rw [if_pos ⟨g0, g1⟩] at ckh
    -- the trace
    have emod : I jn - I jn / (50 : Int32) * (50 : Int32) = I (jn % 50) := by
      rw [show (50 : Int32) = I 50 from rfl, I_div (by omega) (by omega) (by omega) (by omega), I_mul, I_sub]; congr 1; omega
    have e16 : (16 : Int32) * I (Nk N lo) + I (Nk N hi) = I (16 * Nk N lo + Nk N hi) := by rw [show (16 : Int32) = I 16 from rfl, I_mul, I_add]
    have inj : inb (I (jn % 50)) 50 = true := (I_inb (by omega) (by omega)).mpr ⟨by omega, by omega⟩
    have ixj : ix (I (jn % 50)) = (jn % 50).toNat := I_ix (by omega) (by omega)
    have ns : f_X2_noteStep (I (Nk N lo)) (I (Nk N hi)) σ = some (seti (seti σ 37 (jn % 50).toNat (I (16 * Nk N lo + Nk N hi))) 36 1 (I (jn + 1))) := by
      unfold f_X2_noteStep
      have e361 : (seti σ 37 (jn % 50).toNat (I (16 * Nk N lo + Nk N hi))).1 36 1 = I jn := by rw [seti_r (by omega)]; exact j2
      rw [j2, show (50 : Int32) = I 50 from rfl, floorMod50 (by omega) (by omega), Option.bind_some, if_pos inj, Option.bind_some, ixj, e16, e361, Option.bind_some, show (1 : Int32) = I 1 from rfl, I_add]
    -- the class rewrites
    have hBC1 : BkC B (seti (seti σ 37 (jn % 50).toNat (I (16 * Nk N lo + Nk N hi))) 36 1 (I (jn + 1))) 64 := bkc_fr hBC (fun k _ _ => by rw [seti_r (by omega), seti_r (by omega)]) rfl
    have hNC1 : NtC B N (seti (seti σ 37 (jn % 50).toNat (I (16 * Nk N lo + Nk N hi))) 36 1 (I (jn + 1))) 77 := ntc_fr hNC (fun k _ _ => by rw [seti_r (by omega), seti_r (by omega)])
    have hBM1 : BkM B (seti (seti τ 15 (jn % 50).toNat (I (16 * Nk N lo + Nk N hi))) 0 26 (I (jn + 1))) := bkm_fr hBM (fun k _ _ => by rw [seti_r (by omega), seti_r (by omega)]) (fun j _ => by rw [seti1, if_neg (by omega), seti_r (by omega)]) rfl
    have hNM1 : NtM B N (seti (seti τ 15 (jn % 50).toNat (I (16 * Nk N lo + Nk N hi))) 0 26 (I (jn + 1))) := ntm_fr hNM (fun k _ _ => by rw [seti_r (by omega), seti_r (by omega)]) (fun j _ => by rw [seti1, if_neg (by omega), seti_r (by omega)])
    obtain ⟨s9, s10, s11, s12, s13, s14, s15, s16, s17, c, t1, t42, t62, t88, t112, N', ⟨a1, a2, a3, a4, a5, a6, a7, a8, a9, a10⟩, ⟨d1, d2, d3, d4, d5⟩, hV', hNC', hNM', hcn2, ⟨fC2, fC⟩, ⟨fM2, fM, fM0⟩, ⟨fT2, fT⟩, hpair⟩ := s_rew (F := F) hSH hF hBC1 hNC1 hBM1 hNM1 hroom
    have hcn3 : 0 ≤ Ncn N' ∧ Ncn N' ≤ 400 := cnt_b (fun x => decide (0 ≤ Nk N' x)) 400
    have hfkC : f_X8_firstKind (I (alv B N n)) (seti (seti σ 37 (jn % 50).toNat (I (16 * Nk N lo + Nk N hi))) 36 1 (I (jn + 1))) = some (I (Brs B (2 * alv B N n))) := by
      have e := (hBC1.2.2.2.1 _ hr hro.2.1).1
      unfold f_X8_firstKind f_X8_has
      rw [hBC1.2.1]
      simp (maxSteps := 4000000) (disch := omega) only [I_lits, nz, nc, if_pos, if_neg, if_true, if_false, Option.bind_some, true_and, and_true, and_self, or_true, true_or, or_false, false_or, not_true_eq_false, not_false_eq_true, false_and, and_false, Bool.false_eq_true, decide_true, decide_false, eq_self, i01, hr, hro.2.1, e]
    have ckl1 := c_kindOf hNC1 (n := lo) (by omega) (by omega)
    rw [if_pos ⟨l0, l1⟩] at ckl1
    have hkeq : (I (Brs B (2 * alv B N n)) = I (Nk N lo)) ↔ Brs B (2 * alv B N n) = Nk N lo := I_eq (by omega) (by omega) (by omega) (by omega)
    have hrew : f_X7_rewrite F (I (alv B N n)) (I lo) (I hi) (seti (seti σ 37 (jn % 50).toNat (I (16 * Nk N lo + Nk N hi))) 36 1 (I (jn + 1))) = some (seti s17 77 5 (s16.1 77 5 + (Brr B (alv B N n) + c))) := by
      unfold f_X7_rewrite
      rw [hfkC, Option.bind_some, ckl1, Option.bind_some]
      rcases hfs with ⟨rfl, rfl, w⟩ | ⟨rfl, rfl, w⟩
      · rw [if_pos (hkeq.mpr w.symm), Option.bind_some, if_neg i01, Option.bind_some, if_neg i01, Option.bind_some]
        simp only [a1, a2, a3, a4, a5, a6, a7, a8, a9, a10, Option.bind_some]
      · rw [if_neg (fun z => w (hkeq.mp z).symm), Option.bind_some, if_pos rfl, Option.bind_some, if_pos rfl, Option.bind_some]
        simp only [a1, a2, a3, a4, a5, a6, a7, a8, a9, a10, Option.bind_some]
    have e362 : (seti s17 77 5 (s16.1 77 5 + (Brr B (alv B N n) + c))).1 36 2 = I jm := by
      rw [seti_r (by omega), fC 36 (by omega) (by omega) (by omega) (by omega) (by omega) (by omega) (by omega) (by omega), seti1, if_neg (by omega), seti_r (by omega)]; exact j7
    have e773 : (seti s17 77 5 (s16.1 77 5 + (Brr B (alv B N n) + c))).1 77 3 = I (Ncn N') := hNC'.2.2.2.1
    obtain ⟨jm', hjm', hjm1, emaxC, emaxM⟩ : ∃ jm' : Int, (jm ≤ jm' ∧ Ncn N' ≤ jm' ∧ 0 ≤ jm' ∧ jm' ≤ 400) ∧ True ∧ f_J9_max_7cf53 (I jm) (I (Ncn N')) = I jm' ∧ (if I jm < I (Ncn N') then some (I (Ncn N')) else some (I jm)) = some (I jm') := by
      unfold f_J9_max_7cf53
      by_cases w : Ncn N' ≤ jm
      · refine ⟨jm, by omega, trivial, ?_, ?_⟩
        · simp (maxSteps := 4000000) (disch := omega) only [I_lits, nz, nc, if_pos, if_neg, if_true, if_false, Option.bind_some, true_and, and_true, and_self, or_true, true_or, or_false, false_or, not_true_eq_false, not_false_eq_true, false_and, and_false, Bool.false_eq_true, decide_true, decide_false, eq_self, w]
        · simp (maxSteps := 4000000) (disch := omega) only [I_lits, nz, nc, if_pos, if_neg, if_true, if_false, Option.bind_some, true_and, and_true, and_self, or_true, true_or, or_false, false_or, not_true_eq_false, not_false_eq_true, false_and, and_false, Bool.false_eq_true, decide_true, decide_false, eq_self, show ¬ jm < Ncn N' from by omega]
      · refine ⟨Ncn N', by omega, trivial, ?_, ?_⟩
        · simp (maxSteps := 4000000) (disch := omega) only [I_lits, nz, nc, if_pos, if_neg, if_true, if_false, Option.bind_some, true_and, and_true, and_self, or_true, true_or, or_false, false_or, not_true_eq_false, not_false_eq_true, false_and, and_false, Bool.false_eq_true, decide_true, decide_false, eq_self, w]
        · simp (maxSteps := 4000000) (disch := omega) only [I_lits, nz, nc, if_pos, if_neg, if_true, if_false, Option.bind_some, true_and, and_true, and_self, or_true, true_or, or_false, false_or, not_true_eq_false, not_false_eq_true, false_and, and_false, Bool.false_eq_true, decide_true, decide_false, eq_self, show jm < Ncn N' from by omega]
    have hna : f_X2_noteAgents (I (Ncn N')) (seti s17 77 5 (s16.1 77 5 + (Brr B (alv B N n) + c))) = some (seti (seti s17 77 5 (s16.1 77 5 + (Brr B (alv B N n) + c))) 36 2 (I jm')) := by
      unfold f_X2_noteAgents
      rw [e362, emaxC, Option.bind_some, Option.bind_some]
    have eC : f_X11_takeStep F (I n) σ = some (1, seti (seti s17 77 5 (s16.1 77 5 + (Brr B (alv B N n) + c))) 36 2 (I jm')) := by
      unfold f_X11_takeStep
      rw [c_aliveRule hK hV hBC hNC n0 n1, Option.bind_some, c_mateOf hK hV hNC n0 n1, Option.bind_some, if_neg hne1, hAin, Option.bind_some, hNC.2.2.2.1, esum, if_neg hnl, Option.bind_some, Option.bind_some, elo, ehi, ckl, Option.bind_some, ckh, Option.bind_some, ns, Option.bind_some, hrew, Option.bind_some, e773, hna, Option.bind_some]
    -- the reference
    have inlo : inb (I lo) 400 = true := (I_inb (by omega) (by omega)).mpr ⟨l0, l1⟩
    have inhi : inb (I hi) 400 = true := (I_inb (by omega) (by omega)).mpr ⟨g0, g1⟩
    have ixlo : ix (I lo) = lo.toNat := I_ix (by omega) (by omega)
    have ixhi : ix (I hi) = hi.toNat := I_ix (by omega) (by omega)
    have fb : 0 ≤ fi ∧ fi < 400 ∧ 0 ≤ se ∧ se < 400 ∧ 0 ≤ Nk N fi ∧ 0 ≤ Nk N se ∧ Nk N fi < Bkn B ∧ Nk N se < Bkn B ∧ lo + hi - fi = se := by
      rcases hfs with ⟨rfl, rfl, _⟩ | ⟨rfl, rfl, _⟩
      · exact ⟨l0, l1, g0, g1, kl, kg, kl', kg', by omega⟩
      · exact ⟨g0, g1, l0, l1, kg, kl, kg', kl', by omega⟩
    obtain ⟨fb0, fb1, sb0, sb1, kf, ks, kf', ks', esum2⟩ := fb
    have infi : inb (I fi) 400 = true := (I_inb (by omega) (by omega)).mpr ⟨fb0, fb1⟩
    have inse : inb (I se) 400 = true := (I_inb (by omega) (by omega)).mpr ⟨sb0, sb1⟩
    have ixfi : ix (I fi) = fi.toNat := I_ix (by omega) (by omega)
    have ixse : ix (I se) = se.toNat := I_ix (by omega) (by omega)
    have in2r : inb (I (2 * alv B N n)) 120 = true := (I_inb (by omega) (by omega)).mpr ⟨by omega, by omega⟩
    have ix2r : ix (I (2 * alv B N n)) = (2 * alv B N n).toNat := I_ix (by omega) (by omega)
    have e2r : (2 : Int32) * I (alv B N n) = I (2 * alv B N n) := by rw [show (2 : Int32) = I 2 from rfl, I_mul]
    have ikf : inb (I (Nk N fi)) 16 = true := (I_inb (by omega) (by omega)).mpr ⟨kf, by omega⟩
    have iks : inb (I (Nk N se)) 16 = true := (I_inb (by omega) (by omega)).mpr ⟨ks, by omega⟩
    have ixkf : ix (I (Nk N fi)) = (Nk N fi).toNat := I_ix (by omega) (by omega)
    have ixks : ix (I (Nk N se)) = (Nk N se).toNat := I_ix (by omega) (by omega)
    have e026 : (seti τ 15 (jn % 50).toNat (I (16 * Nk N lo + Nk N hi))).1 0 26 = I jn := by rw [seti_r (by omega)]; exact j4
    have e12lo := hNM1.1 lo l0 l1
    have e7 : (seti (seti τ 15 (jn % 50).toNat (I (16 * Nk N lo + Nk N hi))) 0 26 (I (jn + 1))).1 7 (2 * alv B N n).toNat = I (Brs B (2 * alv B N n)) := (hBM1.2.2.2.1 _ hr hro.2.1).1
    have efi : (if I (Nk N lo) = I (Brs B (2 * alv B N n)) then some (I lo) else some (I hi)) = some (I fi) := by
      have hkeq' : (I (Nk N lo) = I (Brs B (2 * alv B N n))) ↔ Nk N lo = Brs B (2 * alv B N n) := I_eq (by omega) (by omega) (by omega) (by omega)
      rcases hfs with ⟨rfl, rfl, w⟩ | ⟨rfl, rfl, w⟩
      · rw [if_pos (hkeq'.mpr w)]
      · rw [if_neg (fun z => w (hkeq'.mp z))]
    have ese : I lo + I hi - I fi = I se := by rw [I_add, I_sub, esum2]
    have t12f : t1.1 12 fi.toNat = I (Nk N fi) := by rw [fT 12 (by omega) (by omega)]; exact hNM1.1 fi fb0 fb1
    have t12s : t1.1 12 se.toNat = I (Nk N se) := by rw [fT 12 (by omega) (by omega)]; exact hNM1.1 se sb0 sb1
    have t3f : t1.1 3 (Nk N fi).toNat = I (Bpt B (Nk N fi)) := by rw [fT 3 (by omega) (by omega)]; exact hBM1.1.2.2.1 _ kf kf'
    have t3s : t1.1 3 (Nk N se).toNat = I (Bpt B (Nk N se)) := by rw [fT 3 (by omega) (by omega)]; exact hBM1.1.2.2.1 _ ks ks'
    have e020 : t112.1 0 20 = I jn := by rw [fM0 20 (by omega), seti1, if_neg (by omega), seti_r (by omega)]; exact j3
    have e021 : (seti t112 0 20 (I (jn + 1))).1 0 21 = I jm := by rw [seti1, if_neg (by omega), fM0 21 (by omega), seti1, if_neg (by omega), seti_r (by omega)]; exact j8
    have eam : f_X12_agentMany F (seti t112 0 20 (I (jn + 1))) = some (I (Ncn N')) := m_agentMany (fun m m0 m1 => by rw [seti_r (by omega)]; exact hNM'.1 m m0 m1) (b16 hK hV') hF
    have d2' := d2
    rw [show (1 : Int32) = I 1 from rfl] at d2'
    have eM : f_X12_doStep F (I n) (I (mate N n)) τ = some (1, seti (seti t112 0 20 (I (jn + 1))) 0 21 (I jm')) := by
      unfold f_X12_doStep
      rw [mrf, Option.bind_some, m_agentMany hNM.1 (b16 hK hV) hF, Option.bind_some, if_pos inr, ixr, mra, esum, if_neg hnl, elo', Option.bind_some, ehi', Option.bind_some, if_pos inlo, if_pos inhi, j4, emod, if_pos inj, ixlo, ixhi, hNM.1 lo l0 l1, hNM.1 hi g0 g1, e16, ixj, Option.bind_some, e026, show (1 : Int32) = I 1 from rfl, I_add, Option.bind_some, if_pos inlo, e2r, if_pos in2r, e12lo, ix2r, e7, efi, Option.bind_some, ese, Option.bind_some, d1, Option.bind_some, if_pos infi, ixfi, t12f, if_pos ikf, ixkf, t3f, Option.bind_some, if_pos inse, ixse, t12s, if_pos iks, ixks, t3s, Option.bind_some, if_pos infi, Option.bind_some, if_pos inse, Option.bind_some, d2', Option.bind_some, d3, Option.bind_some, d4, Option.bind_some, if_pos inr, Option.bind_some, d5, Option.bind_some, e020, I_add, Option.bind_some, eam, Option.bind_some, e021, emaxM, Option.bind_some, Option.bind_some]
    -- what both are now
    have rC : ∀ k, k ≠ 32 → k ≠ 33 → k ≠ 34 → k ≠ 35 → k ≠ 36 → k ≠ 37 → k ≠ 77 → k ≠ 78 → k ≠ 79 → k ≠ 80 → (seti (seti s17 77 5 (s16.1 77 5 + (Brr B (alv B N n) + c))) 36 2 (I jm')).1 k = σ.1 k := fun k x1 x2 x3 x4 x5 x6 x7 x8 x9 x10 => by
      rw [seti_r x5, seti_r x7, fC k x1 x2 x3 x4 x7 x8 x9 x10, seti_r x5, seti_r x6]
    have r36 : ∀ j, j ≠ 1 → j ≠ 2 → (seti (seti s17 77 5 (s16.1 77 5 + (Brr B (alv B N n) + c))) 36 2 (I jm')).1 36 j = σ.1 36 j := fun j x1 x2 => by
      rw [seti1, if_neg (by omega), seti_r (by omega), fC 36 (by omega) (by omega) (by omega) (by omega) (by omega) (by omega) (by omega) (by omega), seti1, if_neg (by omega), seti_r (by omega)]
    have r2 : (seti (seti s17 77 5 (s16.1 77 5 + (Brr B (alv B N n) + c))) 36 2 (I jm')).2 = σ.2 := by rw [seti2, seti2, fC2]; rfl
    have rM : ∀ k, k ≠ 0 → k ≠ 12 → k ≠ 13 → k ≠ 14 → k ≠ 15 → k ≠ 40 → k ≠ 41 → k ≠ 42 → (seti (seti t112 0 20 (I (jn + 1))) 0 21 (I jm')).1 k = τ.1 k := fun k x1 x2 x3 x4 x5 x6 x7 x8 => by
      rw [seti_r x1, seti_r x1, fM k x1 x2 x3 x4 x6 x7 x8, seti_r x1, seti_r x5]
    have rM0 : ∀ j, j ≠ 19 → j ≠ 20 → j ≠ 21 → j ≠ 26 → (seti (seti t112 0 20 (I (jn + 1))) 0 21 (I jm')).1 0 j = τ.1 0 j := fun j x1 x2 x3 x4 => by
      rw [seti1, if_neg (by omega), seti1, if_neg (by omega), fM0 j x1, seti1, if_neg (by omega), seti_r (by omega)]
    have rM2 : (seti (seti t112 0 20 (I (jn + 1))) 0 21 (I jm')).2 = τ.2 := by rw [seti2, seti2, fM2]; rfl
    refine ⟨N', _, _, eC, eM, ⟨⟨hK, hR, hV', ?_, ?_, ?_, ?_⟩, ?_, ?_, ?_, ?_, ?_, ?_, ?_⟩, ?_, ?_, ?_, ?_, ?_, ?_⟩
    · exact bkc_fr hBC (fun k _ _ => rC k (by omega) (by omega) (by omega) (by omega) (by omega) (by omega) (by omega) (by omega) (by omega) (by omega)) (by rw [r2])
    · exact bkm_fr hBM (fun k _ _ => rM k (by omega) (by omega) (by omega) (by omega) (by omega) (by omega) (by omega) (by omega)) (fun j _ => rM0 j (by omega) (by omega) (by omega) (by omega)) (by rw [rM2])
    · exact ntc_fr hNC' (fun k _ _ => seti_r (by omega))
    · exact ntm_fr hNM' (fun k _ _ => by rw [seti_r (by omega), seti_r (by omega)]) (fun j _ => by rw [seti1, if_neg (by omega), seti1, if_neg (by omega)])
    · exact tp_fr h2 (rC 10 (by omega) (by omega) (by omega) (by omega) (by omega) (by omega) (by omega) (by omega) (by omega) (by omega)) (by rw [rC 9 (by omega) (by omega) (by omega) (by omega) (by omega) (by omega) (by omega) (by omega) (by omega) (by omega)]) (rM 1 (by omega) (by omega) (by omega) (by omega) (by omega) (by omega) (by omega) (by omega)) (rM0 1 (by omega) (by omega) (by omega) (by omega))
    · exact ou_fr h3 (rC 63 (by omega) (by omega) (by omega) (by omega) (by omega) (by omega) (by omega) (by omega) (by omega) (by omega)) (by rw [rC 62 (by omega) (by omega) (by omega) (by omega) (by omega) (by omega) (by omega) (by omega) (by omega) (by omega)]) (rM 16 (by omega) (by omega) (by omega) (by omega) (by omega) (by omega) (by omega) (by omega)) (rM0 28 (by omega) (by omega) (by omega) (by omega))
    · refine ⟨jn + 1, jm', hjm'.2.1, by omega, by omega, ?_, ?_, ?_, hjm'.2.2.1, hjm'.2.2.2, ?_, ?_, ?_, ?_, ?_, ?_⟩
      · rw [seti1, if_neg (by omega), seti_r (by omega), fC 36 (by omega) (by omega) (by omega) (by omega) (by omega) (by omega) (by omega) (by omega), seti1, if_pos ⟨rfl, rfl⟩]
      · rw [seti1, if_neg (by omega), seti1, if_pos ⟨rfl, rfl⟩]
      · rw [seti1, if_neg (by omega), seti1, if_neg (by omega), fM0 26 (by omega), seti1, if_pos ⟨rfl, rfl⟩]
      · rw [seti1, if_pos ⟨rfl, rfl⟩]
      · rw [seti1, if_pos ⟨rfl, rfl⟩]
      · rw [r36 3 (by omega) (by omega), rM0 22 (by omega) (by omega) (by omega) (by omega)]; exact j9
      · rw [r36 4 (by omega) (by omega), rM0 23 (by omega) (by omega) (by omega) (by omega)]; exact j10
      · rw [rM0 23 (by omega) (by omega) (by omega) (by omega)]; exact j11
      · intro j y0 y1 y2
        rw [seti_r (by omega), seti_r (by omega), fC 37 (by omega) (by omega) (by omega) (by omega) (by omega) (by omega) (by omega) (by omega), seti_r (by omega), seti1, seti_r (by omega), seti_r (by omega), fM 15 (by omega) (by omega) (by omega) (by omega) (by omega) (by omega) (by omega), seti_r (by omega), seti1]
        by_cases e : j = jn % 50
        · rw [if_pos (by rw [e]; exact ⟨rfl, rfl⟩), if_pos (by rw [e]; exact ⟨rfl, rfl⟩)]
        · rw [if_neg (by omega), if_neg (by omega)]
          exact j12 j y0 y1 (by omega)
    · intro s s0 s4
      have hh := h5 s s0 s4
      unfold ShR ShM NtC at hh ⊢
      rw [rC (39 + 4 * s.toNat) (by omega) (by omega) (by omega) (by omega) (by omega) (by omega) (by omega) (by omega) (by omega) (by omega), rC (39 + 4 * s.toNat + 1) (by omega) (by omega) (by omega) (by omega) (by omega) (by omega) (by omega) (by omega) (by omega) (by omega), rC (39 + 4 * s.toNat + 2) (by omega) (by omega) (by omega) (by omega) (by omega) (by omega) (by omega) (by omega) (by omega) (by omega), rC (39 + 4 * s.toNat + 3) (by omega) (by omega) (by omega) (by omega) (by omega) (by omega) (by omega) (by omega) (by omega) (by omega), rM 44 (by omega) (by omega) (by omega) (by omega) (by omega) (by omega) (by omega) (by omega), rM 45 (by omega) (by omega) (by omega) (by omega) (by omega) (by omega) (by omega) (by omega), rM 46 (by omega) (by omega) (by omega) (by omega) (by omega) (by omega) (by omega) (by omega), rM 47 (by omega) (by omega) (by omega) (by omega) (by omega) (by omega) (by omega) (by omega), rM 48 (by omega) (by omega) (by omega) (by omega) (by omega) (by omega) (by omega) (by omega)]
      rcases hh with w | ⟨w1, N'', w2, w3, w4, m, w5, w6, w7⟩
      · exact Or.inl w
      · refine Or.inr ⟨w1, N'', w2, w3, w4, jm', ?_, hjm'.2.2.2, by rw [seti1, if_pos ⟨rfl, rfl⟩]⟩
        have hc0 : 0 ≤ Ncn N'' := (cnt_b (fun x => decide (0 ≤ Nk N'' x)) 400).1
        rw [j7] at w7
        have := (I_eq (by omega) (by omega) (by omega) (by omega)).mp w7
        omega
    · rw [rC 1 (by omega) (by omega) (by omega) (by omega) (by omega) (by omega) (by omega) (by omega) (by omega) (by omega), rM0 2 (by omega) (by omega) (by omega) (by omega)]; exact h6
    · rw [r2, rM2]; exact h7
    · rw [rM 20 (by omega) (by omega) (by omega) (by omega) (by omega) (by omega) (by omega) (by omega)]; exact h8
    · intro m m0 m1 mn mb mk
      have hm : m ≠ fi ∧ m ≠ se ∧ ((∀ x : Int, x ≠ n → x ≠ mate N n → x ≠ fi ∧ x ≠ se)) := by
        rcases hfs with ⟨rfl, rfl, _⟩ | ⟨rfl, rfl, _⟩ <;> rcases hlh with ⟨rfl, rfl, _⟩ | ⟨rfl, rfl, _⟩
        · exact ⟨mn, mb, fun x a b => ⟨a, b⟩⟩
        · exact ⟨mb, mn, fun x a b => ⟨b, a⟩⟩
        · exact ⟨mb, mn, fun x a b => ⟨b, a⟩⟩
        · exact ⟨mn, mb, fun x a b => ⟨a, b⟩⟩
      have := hpair m m0 m1 hm.1 hm.2.1 mk
      exact ⟨this.1, fun x1 x2 => this.2 (hm.2.2 _ x1 x2).1 (hm.2.2 _ x1 x2).2⟩
    · exact rC 55 (by omega) (by omega) (by omega) (by omega) (by omega) (by omega) (by omega) (by omega) (by omega) (by omega)
    · exact rM 43 (by omega) (by omega) (by omega) (by omega) (by omega) (by omega) (by omega) (by omega)
    · exact r36 3 (by omega) (by omega)
    · exact r36 4 (by omega) (by omega)
    · exact fun j hj => rM0 j (by omega) (by omega) (by omega) (by omega)
  · left
    have hl : (400 : Int32) < I (Ncn N - 2 + Bra B (alv B N n)) := (I_lt (a := 400) (by omega) (by omega) (by omega) (by omega)).mpr (by omega)
    constructor
    · unfold f_X11_takeStep
      rw [c_aliveRule hK hV hBC hNC n0 n1, Option.bind_some, c_mateOf hK hV hNC n0 n1, Option.bind_some, if_neg hne1, hAin, Option.bind_some, hNC.2.2.2.1, esum, if_pos hl]
    · unfold f_X12_doStep
      rw [mrf, Option.bind_some, m_agentMany hNM.1 (b16 hK hV) hF, Option.bind_some, if_pos inr, ixr, mra, esum, if_pos hl]
end STE
