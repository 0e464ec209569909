/-! rewiring in the reference -/
def wsM (g : St) (x : Int) (v : Int32) : St := if x < 0 then seti g 14 (-2 - x).toNat v else seti g 13 x.toNat v
theorem m_wire {g : St} {x : Int} {v : Int32} (h : Wok x) : f_X12_wire (I x) v g = some (wsM g x v) := by
  unfold f_X12_wire wsM
  unfold Wok at h
  by_cases hx : x < 0
  · simp (maxSteps := 4000000) (disch := omega) only [I_lits, nz, nc, if_pos, if_neg, if_true, if_false, Option.bind_some, true_and, and_true, and_self, or_true, true_or, or_false, false_or, not_true_eq_false, not_false_eq_true, false_and, and_false, Bool.false_eq_true, decide_true, decide_false, eq_self, hx]
  · simp (maxSteps := 4000000) (disch := omega) only [I_lits, nz, nc, if_pos, if_neg, if_true, if_false, Option.bind_some, true_and, and_true, and_self, or_true, true_or, or_false, false_or, not_true_eq_false, not_false_eq_true, false_and, and_false, Bool.false_eq_true, decide_true, decide_false, eq_self, hx]
theorem rdm_ws {g : St} {x y : Int} {v : Int32} (hx : Wok x) (hy : Wok y) : rdM (wsM g x v) y = if y = x then v else rdM g y := by
  unfold rdM wsM
  unfold Wok at hx hy
  by_cases a : x < 0
  · by_cases b : y < 0
    · rw [if_pos a, if_pos b, if_pos b, seti1]
      by_cases e : y = x
      · rw [if_pos e, if_pos (by rw [e]; exact ⟨rfl, rfl⟩)]
      · rw [if_neg e, if_neg (by omega)]
    · rw [if_pos a, if_neg b, if_neg b, seti_r (by omega), if_neg (by omega)]
  · by_cases b : y < 0
    · rw [if_neg a, if_pos b, if_pos b, seti_r (by omega), if_neg (by omega)]
    · rw [if_neg a, if_neg b, if_neg b, seti1]
      by_cases e : y = x
      · rw [if_pos e, if_pos (by rw [e]; exact ⟨rfl, rfl⟩)]
      · rw [if_neg e, if_neg (by omega)]
theorem wsm_fr {g : St} {x : Int} {v : Int32} : (wsM g x v).2 = g.2 ∧ ∀ k, k ≠ 13 → k ≠ 14 → (wsM g x v).1 k = g.1 k := by
  unfold wsM
  split
  · exact ⟨rfl, fun k a b => seti_r b⟩
  · exact ⟨rfl, fun k a b => seti_r a⟩
section WIM
variable {B : BkT} {N N' : NtT} {f s r : Int} {na : Int → Int} {σ τ : St} {F : Nat}
def FrX (τ g : St) : Prop := g.2 = τ.2 ∧ ∀ c, c ≠ 41 → c ≠ 13 → c ≠ 14 → g.1 c = τ.1 c
theorem frx_B {g : St} (hB : BkM B τ) (h : FrX τ g) : BkM B g := bkm_fr hB (fun c _ _ => h.2 c (by omega) (by omega) (by omega)) (fun j _ => by rw [h.2 0 (by omega) (by omega) (by omega)]) (by rw [h.1])
theorem wrm_iff {g : St} {D D' : Int → Prop} (h : WrM B N f s r na N' g D) (e : ∀ x, D' x → D x) : WrM B N f s r na N' g D' := fun x a b => h x a (by
  rcases b with q | q
  · exact Or.inl q
  · exact Or.inr (e x q))
def StM (B : BkT) (N : NtT) (f s r : Int) (na : Int → Int) (N' : NtT) (τ g : St) (A D : Int → Prop) : Prop := FrX τ g ∧ PsM B r g (Mkd B N f s r A) ∧ WrM B N f s r na N' g D
theorem stm_iff {g : St} {A A' D D' : Int → Prop} (h : StM B N f s r na N' τ g A D) (e : ∀ t, Tm B N f s r t → (A t ↔ A' t)) (e' : ∀ x, D' x → D x) : StM B N f s r na N' τ g A' D' := ⟨h.1, psm_iff h.2.1 (fun z _ _ => mkd_iff e z), wrm_iff h.2.2 e'⟩
theorem onm_p {r o : Int → Int} {t : Int} {k : Nat} (z : Int) : (OnM r o t k z ∨ z = t) ↔ OnP r o t k z := by
  constructor
  · rintro ((⟨j, j1, j2⟩ | ⟨j, j1, j2, j3⟩) | q)
    · exact ⟨j, j1, Or.inr j2⟩
    · exact ⟨j, j2, Or.inl j3⟩
    · exact ⟨0, by omega, Or.inl q⟩
  · rintro ⟨j, j1, j2 | j2⟩
    · cases j with
      | zero => exact Or.inr j2
      | succ j => exact Or.inl (Or.inr ⟨j + 1, by omega, j1, j2⟩)
    · exact Or.inl (Or.inl ⟨j, j1, j2⟩)
/-- the far end of a port's wire -/
theorem m_far (h : SH B N f s r) (hF : 10000 ≤ F) (hna : NaH B N f s r na) (hB : BkM B τ) (hO : OutM B N f s r τ) (hN : NumM B r na τ) {t : Int} (ht : Tm B N f s r t) (h6 : t < 60) {A D : Int → Prop} {g : St} (hg : StM B N f s r na N' τ g A D) : ∃ g1 k y, Way (Brt B r) (onn N f s) (Sn B N f s r) t k y ∧ (if I (Brt B r t) < (60 : Int32) then Option.bind (f_X12_fresh (I (Brt B r t)) g) (fun x56 => some (x56, g)) else Option.bind (f_X12_outward F (I r) (I (Brt B r t) - (60 : Int32)) g) (fun x57 => some (x57.1, x57.2))) = some (I (Et N f s na y), g1) ∧ StM B N f s r na N' τ g1 (fun x => A x ∨ x = t) D ∧ ∀ c, c ≠ 41 → g1.1 c = g.1 c := by
  obtain ⟨hf, hp, hw⟩ := hg
  have hOg : OutM B N f s r g := fun t a b => by rw [hf.2 40 (by omega) (by omega) (by omega)]; exact hO t a b
  have hNg : NumM B r na g := fun i a b => by rw [hf.2 42 (by omega) (by omega) (by omega)]; exact hN i a b
  have hD2 := rt_l h ht.1
  have hb := rl_r h hD2
  by_cases hu : Brt B r t < 60
  · have way : Way (Brt B r) (onn N f s) (Sn B N f s r) t 0 (Brt B r t) := ⟨fun j hj => by omega, fun q => by have := q.2.1; omega, rfl⟩
    have hlt : I (Brt B r t) < (60 : Int32) := (I_lt (b := 60) (by omega) (by omega) (by omega) (by omega)).mpr hu
    refine ⟨g, 0, _, way, ?_, ⟨hf, psm_iff hp (fun z hz hz6 => ?_), hw⟩, fun _ _ => rfl⟩
    · rw [if_pos hlt, m_fresh h hna hNg hD2 hu, Option.bind_some]
      unfold Et
      rw [if_pos hu]
    · rw [mkd_add ht way]
      constructor
      · exact Or.inl
      · rintro (q | ⟨j, j1, j2⟩)
        · exact q
        · have : j = 0 := by omega
          subst this
          rcases j2 with q | q
          · have q' : z = t := q
            omega
          · have q' : z = Brt B r t := q
            omega
  · obtain ⟨k, y, k8, way⟩ := st_way h ht
    obtain ⟨g1, a1, a2, a3, a4⟩ := m_outward h hF (frx_B hB hf) hOg hNg hna k8 ht way (by omega) hp
    have hnl : ¬ (I (Brt B r t) < (60 : Int32)) := by
      rw [show (60 : Int32) = I 60 from rfl, I_lt (by omega) (by omega) (by omega) (by omega)]; exact hu
    refine ⟨g1, k, y, way, ?_, ⟨⟨by rw [a2, hf.1], fun c c1 c2 c3 => by rw [a3 c c1, hf.2 c c1 c2 c3]⟩, psm_iff a4 (fun z hz hz6 => ?_), fun x hx hd => ?_⟩, a3⟩
    · rw [if_neg hnl, show (60 : Int32) = I 60 from rfl, I_sub, a1, Option.bind_some]
    · rw [mkd_add ht way, ← onm_p]
      constructor
      · rintro (q | q)
        · exact Or.inl q
        · exact Or.inr (Or.inl q)
      · rintro (q | q | q)
        · exact Or.inl q
        · exact Or.inr q
        · omega
    · have := hw x hx hd
      unfold rdM at this ⊢
      rw [a3 13 (by omega), a3 14 (by omega)]; exact this
theorem m_wireAg_p (h : SH B N f s r) (hF : 10000 ≤ F) (hna : NaH B N f s r na) (hV : NetV B N') (hB : BkM B τ) (hO : OutM B N f s r τ) (hN : NumM B r na τ) {i : Int} (i0 : 0 ≤ i) (i1 : i < Bra B r) (c8 c9 : Int32) : ∀ (n : Nat) (p : Int) (g : St), 0 ≤ p → p ≤ Bpt B (Brk B (12 * r + i)) → Bpt B (Brk B (12 * r + i)) - p < n → StM B N f s r na N' τ g (PrtA (5 * i + p)) (PrtD B N f s r na (PrtA (5 * i + p))) → ∃ g', f_X12_doStep_L265 F (I r) c8 c9 (I i) n (I p) g = some g' ∧ StM B N f s r na N' τ g' (PrtA (5 * (i + 1))) (PrtD B N f s r na (PrtA (5 * (i + 1)))) := by
  have hr0 := h.2.2.2.2.1
  have hr1 := h.2.2.2.2.2.1
  have hrn := h.1.2.1.2.1
  have h16 := h.1.1.2.1
  have hra := h.1.2.1.2.2.2.1 r hr0 hr1
  have hrk := h.1.2.1.2.2.2.2.1 r i hr0 hr1 i0 i1
  have hpt := h.1.1.2.2.1 _ hrk.1 hrk.2
  intro n
  induction n with
  | zero => intro p g h0 h1 h2; omega
  | succ n ih =>
    intro p g h0 h1 h2 hg
    have hBg := frx_B hB hg.1
    have e9 := hBg.2.2.2.2.1 r i hr0 hr1 i0 i1
    have e3 := hBg.1.2.2.1 _ hrk.1 hrk.2
    by_cases hp : p = Bpt B (Brk B (12 * r + i))
    · rw [f_X12_doStep_L265]
      have hlt : ¬ (I p < I (Bpt B (Brk B (12 * r + i)))) := by rw [hp]; exact Int32.lt_irrefl
      simp (maxSteps := 4000000) (disch := omega) only [I_lits, nz, nc, e9, e3]
      rw [if_pos (by omega), if_pos (by omega), if_neg (by omega)]
      have e : ∀ t, Tm B N f s r t → (PrtA (5 * i + p) t ↔ PrtA (5 * (i + 1)) t) := fun t ht => ⟨fun q => by unfold PrtA at q ⊢; omega, fun q => by
        unfold PrtA at q ⊢
        by_cases h6 : t < 60
        · have hb := pt_b h ht.1 h6
          by_cases e : t / 5 = i
          · rw [e] at hb; omega
          · omega
        · omega⟩
      exact ⟨g, rfl, stm_iff hg e (fun x q => (prtd_iff e x).mpr q)⟩
    · have hR : RLiv B r (5 * i + p) := Or.inl ⟨by omega, by omega, by omega, by
        rw [show (5 * i + p) / 5 = i by omega, show (5 * i + p) % 5 = p by omega]; omega⟩
      have ht : Tm B N f s r (5 * i + p) := ⟨hR, fun q => by have := q.2.1; omega⟩
      have hnb := hna.1 i i0 i1
      obtain ⟨g1, k, y, way, a1, a2, a3⟩ := m_far (F := F) h hF hna hB hO hN ht (by omega) hg
      have hNg : NumM B r na g := fun i a b => by rw [hg.1.2 42 (by omega) (by omega) (by omega)]; exact hN i a b
      have hfr := m_fresh h hna hNg hR (by omega)
      rw [show (5 * i + p) / 5 = i by omega, show (5 * i + p) % 5 = p by omega] at hfr
      have hto := m_rto h hBg hR
      have hy := way_tm h ht way
      have o1 := et_ok h hna ht
      have o2 := et_ok h hna hy.1
      have eEt : Et N f s na (5 * i + p) = 5 * na i + p := by
        unfold Et
        rw [if_pos (by omega), show (5 * i + p) / 5 = i by omega]; omega
      have hws : ∀ v, seti g1 13 (5 * na i + p).toNat v = wsM g1 (Et N f s na (5 * i + p)) v := fun v => by
        unfold wsM
        rw [eEt, if_neg (by omega)]
      rw [f_X12_doStep_L265]
      have eidx : (70 : Int32) * I r + (5 : Int32) * I i + I p = I (70 * r + (5 * i + p)) := by
        rw [show (70 : Int32) = I 70 from rfl, show (5 : Int32) = I 5 from rfl, I_mul, I_mul, I_add, I_add]; congr 1; omega
      have ei12 : (12 : Int32) * I r + I i = I (12 * r + i) := by rw [show (12 : Int32) = I 12 from rfl, I_mul, I_add]
      have ei5 : (5 : Int32) * I i + I p = I (5 * i + p) := by rw [show (5 : Int32) = I 5 from rfl, I_mul, I_add]
      have hix12 : ix (I (12 * r + i)) = (12 * r + i).toNat := I_ix (by omega) (by omega)
      have hixk : ix (I (Brk B (12 * r + i))) = (Brk B (12 * r + i)).toNat := I_ix (by omega) (by omega)
      have hix70 : ix (I (70 * r + (5 * i + p))) = (70 * r + (5 * i + p)).toNat := I_ix (by omega) (by omega)
      have hixn : ix (I (5 * na i + p)) = (5 * na i + p).toNat := I_ix (by omega) (by omega)
      have c1 : inb (I (12 * r + i)) 720 = true := (I_inb (by omega) (by omega)).mpr ⟨by omega, by omega⟩
      have c2 : inb (I (Brk B (12 * r + i))) 16 = true := (I_inb (by omega) (by omega)).mpr ⟨by omega, by omega⟩
      have c3 : I p < I (Bpt B (Brk B (12 * r + i))) := (I_lt (by omega) (by omega) (by omega) (by omega)).mpr (by omega)
      have c4 : inb (I (5 * na i + p)) 2000 = true := (I_inb (by omega) (by omega)).mpr ⟨by omega, by omega⟩
      rw [ei12, if_pos c1, hix12, e9, if_pos c2, hixk, e3, if_pos c3, eidx, if_pos hto.1, hix70, hto.2, Option.bind_some, ei5, hfr, Option.bind_some, a1, Option.bind_some, if_pos c4, hixn, Option.bind_some]
      show ∃ g', Option.bind (f_X12_wire (I (Et N f s na y)) (I (5 * na i + p)) (seti g1 13 (5 * na i + p).toNat (I (Et N f s na y)))) (fun s60 => f_X12_doStep_L265 F (I r) c8 c9 (I i) n (I p + 1) s60) = some g' ∧ _
      rw [hws, m_wire o2, Option.bind_some, show (1 : Int32) = I 1 from rfl, I_add]
      refine ih (p + 1) _ (by omega) (by omega) (by omega) ⟨⟨by rw [wsm_fr.1, wsm_fr.1, a2.1.1], fun c x1 x2 x3 => by rw [wsm_fr.2 c x2 x3, wsm_fr.2 c x2 x3, a2.1.2 c x1 x2 x3]⟩, ?_, ?_⟩
      · have p1 : PsM B r (wsM (wsM g1 (Et N f s na (5 * i + p)) (I (Et N f s na y))) (Et N f s na y) (I (5 * na i + p))) (Mkd B N f s r (fun x => PrtA (5 * i + p) x ∨ x = 5 * i + p)) := by
          have := a2.2.1
          unfold PsM at this ⊢
          rw [wsm_fr.2 41 (by omega) (by omega), wsm_fr.2 41 (by omega) (by omega)]; exact this
        exact psm_iff p1 (fun z _ _ => mkd_iff (fun t _ => by unfold PrtA; omega) z)
      · intro x hx hd
        have ox := liv_ok hV hx
        rw [rdm_ws o2 ox]
        by_cases e2 : x = Et N f s na y
        · rw [if_pos e2, e2, nw_E h hna hy.1 hy.2, eEt]
        · rw [if_neg e2, rdm_ws o1 ox]
          by_cases e1 : x = Et N f s na (5 * i + p)
          · rw [if_pos e1, e1, nw_E h hna ht way]
          · rw [if_neg e1]
            refine a2.2.2 x hx ?_
            rcases hd with q | q
            · exact Or.inl q
            · have q' := (prtd_iff (A' := fun x => PrtA (5 * i + p) x ∨ x = 5 * i + p) (fun t _ => by unfold PrtA; omega) x).mp q
              rw [prtd_add ht way] at q'
              rcases q' with q' | q' | q'
              · exact Or.inr q'
              · exact absurd q' e1
              · exact absurd q' e2
theorem m_wireAg (h : SH B N f s r) (hF : 10000 ≤ F) (hna : NaH B N f s r na) (hV : NetV B N') (hB : BkM B τ) (hO : OutM B N f s r τ) (hN : NumM B r na τ) (c8 c9 : Int32) : ∀ (n : Nat) (i : Int) (g : St), 0 ≤ i → i ≤ Bra B r → Bra B r - i < n → StM B N f s r na N' τ g (PrtA (5 * i)) (PrtD B N f s r na (PrtA (5 * i))) → ∃ g', f_X12_doStep_L251 F (I r) c8 c9 n (I i) g = some g' ∧ StM B N f s r na N' τ g' (PrtA 60) (PrtD B N f s r na (PrtA 60)) := by
  have hr0 := h.2.2.2.2.1
  have hr1 := h.2.2.2.2.2.1
  have hrn := h.1.2.1.2.1
  have hra := h.1.2.1.2.2.2.1 r hr0 hr1
  intro n
  induction n with
  | zero => intro i g h0 h1 h2; omega
  | succ n ih =>
    intro i g h0 h1 h2 hg
    have hBg := frx_B hB hg.1
    have e8 := (hBg.2.2.2.1 r hr0 hr1).2.2.1
    have c1 : inb (I r) 60 = true := (I_inb (by omega) (by omega)).mpr ⟨by omega, by omega⟩
    have hixr : ix (I r) = r.toNat := I_ix (by omega) (by omega)
    rw [f_X12_doStep_L251, if_pos c1, hixr, e8]
    by_cases hi : i = Bra B r
    · rw [if_neg (by rw [hi]; exact Int32.lt_irrefl)]
      have e : ∀ t, Tm B N f s r t → (PrtA (5 * i) t ↔ PrtA 60 t) := fun t ht => ⟨fun q => by unfold PrtA at q ⊢; omega, fun q => by
        unfold PrtA at q ⊢
        have := pt_b h ht.1 q
        omega⟩
      exact ⟨g, rfl, stm_iff hg e (fun x q => (prtd_iff e x).mpr q)⟩
    · have hlt : I i < I (Bra B r) := (I_lt (by omega) (by omega) (by omega) (by omega)).mpr (by omega)
      have hrk := h.1.2.1.2.2.2.2.1 r i hr0 hr1 h0 (by omega)
      have hpt := h.1.1.2.2.1 _ hrk.1 hrk.2
      obtain ⟨g1, a1, a2⟩ := m_wireAg_p (F := F) h hF hna hV hB hO hN h0 (show i < Bra B r by omega) c8 c9 F 0 g (by omega) (by omega) (by omega) (by rw [Int.add_zero]; exact hg)
      rw [if_pos hlt, show (0 : Int32) = I 0 from rfl, a1, Option.bind_some, show (1 : Int32) = I 1 from rfl, I_add]
      exact ih (i + 1) g1 (by omega) (by omega) (by omega) a2
/-- the reference's slots -/
theorem m_is (h : SH B N f s r) {o : Int} (o0 : 0 ≤ o) (o1 : o < 10) : (Option.bind (some (fun (_ : Unit) => some (0 : Int32))) fun jp67 => if 0 < (I o - I o / (5 : Int32) * (5 : Int32)) then (Option.bind (if I o < (5 : Int32) then some (I (Bpt B (Nk N f))) else some (I (Bpt B (Nk N s)))) fun t69 => if (I o - I o / (5 : Int32) * (5 : Int32)) < t69 then some (1 : Int32) else jp67 ()) else jp67 ()) = some (I (@ite _ (RLiv B r (60 + o)) (Classical.propDecidable _) 1 0)) := by
  have kf := h.1.2.2.2.2.1 f h.2.1.1 h.2.1.2.1
  have ks := h.1.2.2.2.2.1 s h.2.1.2.2.1 h.2.1.2.2.2.1
  have pf := h.1.1.2.2.1 _ h.2.1.2.2.2.2.2.1 kf.2
  have pS := h.1.1.2.2.1 _ h.2.1.2.2.2.2.2.2 ks.2
  have key : RLiv B r (60 + o) ↔ 0 < o % 5 ∧ o % 5 < (if o < 5 then Bpt B (Nk N f) else Bpt B (Nk N s)) := by
    constructor
    · intro q
      have := sl_b h q (by omega)
      rw [show 60 + o - 60 = o by omega] at this
      unfold ag at this
      by_cases o5 : o < 5
      · rw [if_pos o5] at this ⊢; omega
      · rw [if_neg o5] at this ⊢; omega
    · intro q
      refine sl_mk h o0 o1 (by omega) ?_
      unfold ag
      by_cases o5 : o < 5
      · rw [if_pos o5] at q ⊢; omega
      · rw [if_neg o5] at q ⊢; omega
  simp (maxSteps := 4000000) (disch := omega) only [I_lits, nz, nc, if_pos, if_neg, if_true, if_false, Option.bind_some, true_and, and_true, and_self, or_true, true_or, or_false, false_or, not_true_eq_false, not_false_eq_true, false_and, and_false, Bool.false_eq_true, decide_true, decide_false, eq_self]
  have em : o - o / 5 * 5 = o % 5 := by omega
  rw [em]
  by_cases hk : RLiv B r (60 + o)
  · have hk' := key.mp hk
    rw [if_pos hk'.1, if_pos hk]
    by_cases o5 : o < 5
    · rw [if_pos o5] at hk'
      simp (maxSteps := 4000000) (disch := omega) only [I_lits, nz, nc, if_pos, if_neg, if_true, if_false, Option.bind_some, true_and, and_true, and_self, or_true, true_or, or_false, false_or, not_true_eq_false, not_false_eq_true, false_and, and_false, Bool.false_eq_true, decide_true, decide_false, eq_self, o5, hk'.2]
    · rw [if_neg o5] at hk'
      simp (maxSteps := 4000000) (disch := omega) only [I_lits, nz, nc, if_pos, if_neg, if_true, if_false, Option.bind_some, true_and, and_true, and_self, or_true, true_or, or_false, false_or, not_true_eq_false, not_false_eq_true, false_and, and_false, Bool.false_eq_true, decide_true, decide_false, eq_self, o5, hk'.2]
  · rw [if_neg hk]
    by_cases h0 : 0 < o % 5
    · rw [if_pos h0]
      by_cases o5 : o < 5
      · have : ¬ o % 5 < Bpt B (Nk N f) := fun q => hk (key.mpr ⟨h0, by rw [if_pos o5]; exact q⟩)
        simp (maxSteps := 4000000) (disch := omega) only [I_lits, nz, nc, if_pos, if_neg, if_true, if_false, Option.bind_some, true_and, and_true, and_self, or_true, true_or, or_false, false_or, not_true_eq_false, not_false_eq_true, false_and, and_false, Bool.false_eq_true, decide_true, decide_false, eq_self, o5, this]
      · have : ¬ o % 5 < Bpt B (Nk N s) := fun q => hk (key.mpr ⟨h0, by rw [if_neg o5]; exact q⟩)
        simp (maxSteps := 4000000) (disch := omega) only [I_lits, nz, nc, if_pos, if_neg, if_true, if_false, Option.bind_some, true_and, and_true, and_self, or_true, true_or, or_false, false_or, not_true_eq_false, not_false_eq_true, false_and, and_false, Bool.false_eq_true, decide_true, decide_false, eq_self, o5, this]
    · rw [if_neg h0]
end WIM
