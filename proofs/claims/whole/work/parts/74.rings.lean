/-! rings: orbits of two pairings -/
theorem ph_swap {r o : Int → Int} {U : Int → Prop} (h : PH r o U U) : PH o r U U := ⟨fun x hx => ⟨(h.2 x hx).2.1, (h.2 x hx).2.2.1, (h.2 x hx).2.2.2⟩, fun x hx => ⟨hx, (h.1 x hx).1, (h.1 x hx).2.1, (h.1 x hx).2.2⟩⟩
def Clo (r o : Int → Int) (U P : Int → Prop) : Prop := ∀ a, U a → P a → P (r a) ∧ P (o a)
def cl (r o : Int → Int) (U M : Int → Prop) (x z : Int) : Prop := ∀ P : Int → Prop, Clo r o U P → (∀ a, M a → P a) → P x → P z
theorem clo_swap {r o : Int → Int} {U P : Int → Prop} (h : Clo r o U P) : Clo o r U P := fun a u p => ⟨(h a u p).2, (h a u p).1⟩
theorem cl_swap {r o : Int → Int} {U M : Int → Prop} {x z : Int} : cl o r U M x z ↔ cl r o U M x z := ⟨fun h P a b c => h P (clo_swap a) b c, fun h P a b c => h P (clo_swap a) b c⟩
theorem cl_clo {r o : Int → Int} {U M : Int → Prop} {x : Int} : Clo r o U (cl r o U M x) := fun a u p => ⟨fun P h1 h2 h3 => (h1 a u (p P h1 h2 h3)).1, fun P h1 h2 h3 => (h1 a u (p P h1 h2 h3)).2⟩
section RNG
variable {r o : Int → Int} {U M : Int → Prop}
theorem itr_U (h : PH r o U U) {x : Int} (hx : U x) : ∀ n, U (itr r o n x)
  | 0 => hx
  | n + 1 => (h.2 _ (h.1 _ (itr_U h hx n)).1).2.1
theorem itr_per (h : PH r o U U) {c : Int → Int} {K : Nat} (hc : Cod o U c K) {x : Int} (hx : U x) : ∃ m, 1 ≤ m ∧ m ≤ K ∧ itr r o m x = x := itr_rep h hc hx (fun l _ => (h.1 _ (itr_U h hx l)).1)
/-- marks along m turns, where the way closes after p of them -/
theorem cl_marks (h : PH r o U U) (hM : Clo r o U M) {x : Int} (hx : U x) {p m : Nat} (hp1 : 1 ≤ p) (hpm : p ≤ m) (hp : itr r o p x = x) (z : Int) : (M z ∨ OnL r o x m z) ↔ cl r o U M x z := by
  constructor
  · rintro (q | ⟨j, j1, j2⟩)
    · exact fun P _ a _ => a z q
    · intro P a b c
      have key : ∀ n, P (itr r o n x) := by
        intro n
        induction n with
        | zero => exact c
        | succ n ih =>
          have u := itr_U h hx n
          exact (a _ (h.1 _ u).1 (a _ u ih).1).2
      rcases j2 with q | q
      · rw [q]; exact key j
      · rw [q]; exact (a _ (itr_U h hx j) (key j)).1
  · intro hz
    refine hz (fun z => M z ∨ OnL r o x m z) ?_ (fun a q => Or.inl q) (Or.inr ⟨0, by omega, Or.inl rfl⟩)
    intro a ua pa
    rcases pa with q | ⟨j, j1, j2⟩
    · exact ⟨Or.inl (hM a ua q).1, Or.inl (hM a ua q).2⟩
    · have uj := itr_U h hx j
      rcases j2 with q | q
      · refine ⟨Or.inr ⟨j, j1, Or.inr (by rw [q])⟩, Or.inr ?_⟩
        cases j with
        | zero =>
          obtain ⟨p', rfl⟩ : ∃ p', p = p' + 1 := ⟨p - 1, by omega⟩
          refine ⟨p', by omega, Or.inr ?_⟩
          have e : a = o (r (itr r o p' x)) := by
            rw [q]
            show x = _
            conv => lhs; rw [← hp, itr]
          rw [e, (h.2 _ (h.1 _ (itr_U h hx p')).1).2.2.1]
        | succ j =>
          refine ⟨j, by omega, Or.inr ?_⟩
          rw [q, itr, (h.2 _ (h.1 _ (itr_U h hx j)).1).2.2.1]
      · refine ⟨Or.inr ⟨j, j1, Or.inl (by rw [q, (h.1 _ uj).2.1])⟩, Or.inr ?_⟩
        by_cases e : j + 1 < m
        · exact ⟨j + 1, e, Or.inl (by rw [q, itr])⟩
        · refine ⟨j + 1 - p, by omega, Or.inl ?_⟩
          have : itr r o (j + 1) x = itr r o (j + 1 - p) x := by
            conv => lhs; rw [show j + 1 = (j + 1 - p) + p by omega, itr_add, hp]
          rw [q, ← this, itr]
/-- before the way closes nothing on it is marked -/
theorem cl_fresh (h : PH r o U U) (hM : Clo r o U M) {x : Int} (hx : U x) (hn : ¬ M x) {p : Nat} (hmin : ∀ j, 1 ≤ j → j < p → itr r o j x ≠ x) {j : Nat} (j1 : 1 ≤ j) (jp : j < p) : ¬ (M (itr r o j x) ∨ OnL r o x j (itr r o j x)) := by
  rintro (q | ⟨i, i1, i2 | i2⟩)
  · apply hn
    have key : ∀ l, l ≤ j → M (itr r o (j - l) x) := by
      intro l
      induction l with
      | zero => intro _; exact q
      | succ l ih =>
        intro hl
        have := ih (by omega)
        obtain ⟨n, hn'⟩ : ∃ n, j - l = n + 1 := ⟨j - l - 1, by omega⟩
        rw [hn', itr] at this
        rw [show j - (l + 1) = n by omega]
        have u := itr_U h hx n
        have ur := (h.1 _ u).1
        have uo := (h.2 _ ur).2.1
        have m1 := (hM _ uo this).2
        rw [(h.2 _ ur).2.2.1] at m1
        have m2 := (hM _ ur m1).1
        rw [(h.1 _ u).2.1] at m2
        exact m2
    have := key j (by omega)
    rw [Nat.sub_self] at this
    exact this
  · have := itr_back h hx (i := i) (j := j) i (by omega) (by omega) (fun l _ => (h.1 _ (itr_U h hx l)).1) i2.symm
    rw [Nat.sub_self] at this
    exact hmin (j - i) (by omega) (by omega) this.symm
  · refine itr_twin h (itr_U h hx i) (n := j - i) (fun l _ => (h.1 _ (itr_U h (itr_U h hx i) l)).1) ?_
    rw [← itr_add, show j - i + i = j by omega, i2]
end RNG
theorem least_per {P : Nat → Prop} : ∀ n, (∃ m, 1 ≤ m ∧ m ≤ n ∧ P m) → ∃ m, 1 ≤ m ∧ m ≤ n ∧ P m ∧ ∀ j, 1 ≤ j → j < m → ¬ P j
  | 0, ⟨m, a, b, _⟩ => by omega
  | n + 1, ⟨m, a, b, c⟩ => by
    by_cases h : ∃ m, 1 ≤ m ∧ m ≤ n ∧ P m
    · obtain ⟨m', x, y, z⟩ := least_per n h
      exact ⟨m', x, by omega, z⟩
    · exact ⟨m, a, b, c, fun j j1 j2 q => h ⟨j, j1, by omega, q⟩⟩
/-- counting orbits by the class' numbers of slots -/
noncomputable def rgA (r o : Int → Int) (U : Int → Prop) : Nat → Int → (Int → Prop) → Int
  | 0, _, _ => 0
  | m + 1, v, M => @ite _ (U (61 + 5 * (v / 4) + v % 4) ∧ ¬ M (61 + 5 * (v / 4) + v % 4)) (Classical.propDecidable _) (1 + rgA r o U m (v + 1) (cl r o U M (61 + 5 * (v / 4) + v % 4))) (rgA r o U m (v + 1) M)
/-- the slots that no wire goes through -/
def Unp (B : BkT) (N : NtT) (f s r z : Int) : Prop := RLiv B r z ∧ 60 ≤ z ∧ ¬ Mkd B N f s r (fun _ => True) z
section RNS
variable {B : BkT} {N N' : NtT} {f s r : Int} {na : Int → Int} {σ τ : St} {F : Nat}
theorem un_S (h : SH B N f s r) {z : Int} (hz : Unp B N f s r z) : Sn B N f s r z := by
  by_cases hS : Sn B N f s r z
  · exact hS
  · exfalso
    obtain ⟨k, y, _, way⟩ := st_way h ⟨hz.1, hS⟩
    exact hz.2.2 ⟨z, k, y, trivial, ⟨hz.1, hS⟩, way, 0, by omega, Or.inl rfl⟩
theorem un_ph (h : SH B N f s r) : PH (Brt B r) (onn N f s) (Unp B N f s r) (Unp B N f s r) := by
  have hph := st_ph h
  constructor
  · intro z hz
    have hr := hph.1 z hz.1
    have hS : Sn B N f s r (Brt B r z) := by
      by_cases hS : Sn B N f s r (Brt B r z)
      · exact hS
      · exfalso
        obtain ⟨k, y, _, way⟩ := st_way h ⟨hr.1, hS⟩
        refine hz.2.2 ⟨Brt B r z, k, y, trivial, ⟨hr.1, hS⟩, way, 0, by omega, Or.inr ?_⟩
        show z = Brt B r (Brt B r z)
        rw [hr.2.1]
    refine ⟨⟨hr.1, hS.2.1, ?_⟩, hr.2⟩
    rintro ⟨t, k, y, _, ht, way, j, j1, j2⟩
    have d := itr_D hph ht.1 j (fun l hl => way.1 l (by omega))
    refine hz.2.2 ⟨t, k, y, trivial, ht, way, j, j1, ?_⟩
    rcases j2 with q | q
    · right; rw [← q, hr.2.1]
    · left; rw [← hr.2.1, q, (hph.1 _ d).2.1]
  · intro z hz
    have hS := un_S h hz
    have ho := hph.2 z hS
    refine ⟨hz, ⟨ho.2.1.1, ho.2.1.2.1, ?_⟩, ho.2.2⟩
    rintro ⟨t, k, y, _, ht, way, j, j1, j2⟩
    rcases j2 with q | q
    · cases j with
      | zero =>
        have q' : onn N f s z = t := q
        exact ht.2 (by rw [← q']; exact ho.2.1)
      | succ j =>
        refine hz.2.2 ⟨t, k, y, trivial, ht, way, j, by omega, Or.inr ?_⟩
        rw [itr] at q
        rw [← ho.2.2.1, q, (hph.2 _ (way.1 j (by omega))).2.2.1]
    · by_cases e : j = k
      · exact way.2.1 (by rw [← way.2.2, ← e, ← q]; exact ho.2.1)
      · refine hz.2.2 ⟨t, k, y, trivial, ht, way, j + 1, by omega, Or.inl ?_⟩
        rw [itr, ← q, ho.2.2.1]
theorem un_cod (h : SH B N f s r) (o' : Int → Int) : Cod o' (Unp B N f s r) sc 8 := by
  refine ⟨fun x hx => sc_b h hx.1 hx.2.1, fun x y hx hy e => Or.inl (sc_inj h hx.1 hx.2.1 hy.1 hy.2.1 e)⟩
theorem cov_V (h : SH B N f s r) {A : Int → Prop} (hA : ∀ t, Tm B N f s r t → Cov B N f s r A t) (z : Int) : Mkd B N f s r A z ↔ Mkd B N f s r (fun _ => True) z := by
  constructor
  · rintro ⟨t, k, y, a, b⟩; exact ⟨t, k, y, trivial, b⟩
  · rintro ⟨t, k, y, _, ht, way, on⟩
    rcases hA t ht with q | ⟨t', k', a1, a2, a3⟩
    · exact ⟨t, k, y, q, ht, way, on⟩
    · have := way_tm h a2 a3
      have e := way_uniq way this.2
      refine ⟨t', k', t, a1, a2, a3, onp_rev (st_ph h) a2.1 a3 ?_⟩
      rw [← e.1]; exact on
/-- following a ring -/
theorem c_ring_L (h : SH B N f s r) (hB : BkC B σ 64) (hO : OutC B N f s r σ) {x : Int} (hx : Unp B N f s r x) : ∀ (n j : Nat) (M : Int → Prop) (g : St), j ≤ 9 → 9 - j < n → g.2 = σ.2 → (∀ c, c ≠ 34 → g.1 c = σ.1 c) → PsC B r g (fun z => M z ∨ OnL (Brt B r) (onn N f s) x j z) → ∃ g', f_X7_follow_L6 F (I r) fo0 fo1 n (I (encR (itr (Brt B r) (onn N f s) j x))) (I j) g = some (I (-1), g') ∧ g'.2 = σ.2 ∧ (∀ c, c ≠ 34 → g'.1 c = σ.1 c) ∧ PsC B r g' (fun z => M z ∨ OnL (Brt B r) (onn N f s) x 9 z) := by
  intro n
  induction n with
  | zero => intro j M g h1 h2; omega
  | succ n ih =>
    intro j M g h1 h2 h3 h4 h5
    by_cases hj : j = 9
    · subst hj
      rw [f_X7_follow_L6, if_neg (by decide)]
      exact ⟨g, rfl, h3, h4, h5⟩
    · have huj := itr_U (un_ph h) hx j
      have hur := ((un_ph h).1 _ huj).1
      obtain ⟨g1, a1, a2, a3, a4⟩ := c_pass h h5 huj.1
      obtain ⟨g2, b1, b2, b3, b4⟩ := c_pass h a4 hur.1
      have hB1 : BkC B g1 64 := bkc_fr hB (fun c _ _ => by rw [a3 c (by omega), h4 c (by omega)]) (by rw [a2, h3])
      have hrw := c_rwire h hB1 huj.1
      have hS := un_S h hur
      have hOu := hO _ hur.1 hur.2.1
      have hos := os_b h hS
      have hsc2 := sc_b h hos.1 hos.2.1
      have o33 : g2.1 33 (sc (Brt B r (itr (Brt B r) (onn N f s) j x))).toNat = I (sc (onn N f s (Brt B r (itr (Brt B r) (onn N f s) j x)))) := by rw [b3 33 (by omega), a3 33 (by omega), h4 33 (by omega)]; exact hOu.2.1 hS
      rw [c_fo_s h (by omega) a1 hrw b1 hur.1 hur.2.1 o33 (by omega) (by omega), if_neg (by omega)]
      obtain ⟨g', e1, e2⟩ := ih (j + 1) M g2 (by omega) (by omega) (by rw [b2, a2, h3]) (fun c hc => by rw [b3 c hc, a3 c hc, h4 c hc]) (psc_iff b4 (fun z hz h6 => by
        rw [onl_suc]
        constructor
        · rintro (((q | q) | q) | q)
          · exact Or.inl q
          · exact Or.inr (Or.inl q)
          · exact Or.inr (Or.inr (Or.inl q))
          · exact Or.inr (Or.inr (Or.inr q))
        · rintro (q | q | q | q)
          · exact Or.inl (Or.inl (Or.inl q))
          · exact Or.inl (Or.inl (Or.inr q))
          · exact Or.inl (Or.inr q)
          · exact Or.inr q))
      rw [itr, encR_s hos.2.1] at e1
      exact ⟨g', e1, e2⟩
theorem c_rings_L (h : SH B N f s r) (hF : 10000 ≤ F) (hB : BkC B σ 64) (hO : OutC B N f s r σ) : ∀ (n m : Nat) (v c : Int) (M : Int → Prop) (g : St), 0 ≤ v → v + m = 8 → m < n → g.2 = σ.2 → (∀ c, c ≠ 34 → g.1 c = σ.1 c) → Clo (Brt B r) (onn N f s) (Unp B N f s r) M → PsC B r g (fun z => Mkd B N f s r (fun _ => True) z ∨ M z) → ∃ g', f_X7_countRings_L5 F (I r) n (I c) (I v) g = some (I (c + rgA (Brt B r) (onn N f s) (Unp B N f s r) m v M), g') ∧ g'.2 = σ.2 ∧ ∀ c, c ≠ 34 → g'.1 c = σ.1 c := by
  intro n
  induction n with
  | zero => intro m v c M g h0 h1 h2; omega
  | succ n ih =>
    intro m v c M g h0 h1 h2 h3 h4 hM h5
    rw [f_X7_countRings_L5]
    cases m with
    | zero =>
      rw [if_neg (by rw [show v = 8 by omega]; exact Int32.lt_irrefl), rgA, Int.add_zero]
      exact ⟨g, rfl, h3, h4⟩
    | succ m =>
      have hlt : I v < (8 : Int32) := (I_lt (b := 8) (by omega) (by omega) (by omega) (by omega)).mpr (by omega)
      have hin : inb (I v) 8 = true := (I_inb (by omega) (by omega)).mpr ⟨by omega, by omega⟩
      have hix : ix (I v) = v.toNat := I_ix (by omega) (by omega)
      rw [if_pos hlt, if_pos hin, hix, rgA]
      have hsc : sc (61 + 5 * (v / 4) + v % 4) = v := by unfold sc; omega
      by_cases hU : Unp B N f s r (61 + 5 * (v / 4) + v % 4) ∧ ¬ M (61 + 5 * (v / 4) + v % 4)
      · have hp0 := (h5.1 _ hU.1.1 hU.1.2.1).2 (fun q => by
          rcases q with q | q
          · exact hU.1.2.2 q
          · exact hU.2 q)
        rw [hsc] at hp0
        have hOg : OutC B N f s r g := fun t a b => by rw [h4 32 (by omega), h4 33 (by omega)]; exact hO t a b
        have hBg : BkC B g 64 := bkc_fr hB (fun c _ _ => h4 c (by omega)) (by rw [h3])
        obtain ⟨g1, a1, a2, a3, a4⟩ := c_ring_L (F := F) h hBg hOg hU.1 F 0 (fun z => Mkd B N f s r (fun _ => True) z ∨ M z) g (by omega) (by omega) rfl (fun _ _ => rfl) (psc_iff h5 (fun z _ _ => ⟨Or.inl, fun q => by
          rcases q with q | ⟨j, q, _⟩
          · exact q
          · omega⟩))
        have a1' : f_X7_follow F (I r) (I (-2 - v)) g = some (I (-1), g1) := by
          unfold f_X7_follow
          have : encR (61 + 5 * (v / 4) + v % 4) = -2 - v := by rw [encR_s (by omega), hsc]
          rw [← this]
          exact a1
        obtain ⟨p, p1, p2, p3⟩ := itr_per (un_ph h) (un_cod h _) hU.1
        have hcl := cl_marks (un_ph h) hM hU.1 p1 (show p ≤ 9 by omega) p3
        unfold f_X11_endCode
        rw [if_pos hU, hp0, if_pos (by rfl), Option.bind_some, Option.bind_some, show (-2 : Int32) = I (-2) from rfl, I_sub, a1', Option.bind_some, Option.bind_some, show (1 : Int32) = I 1 from rfl, I_add, I_add]
        obtain ⟨g', b1, b2, b3⟩ := ih m (v + 1) (c + 1) (cl (Brt B r) (onn N f s) (Unp B N f s r) M (61 + 5 * (v / 4) + v % 4)) g1 (by omega) (by omega) (by omega) (by rw [a2, h3]) (fun c hc => by rw [a3 c hc, h4 c hc]) cl_clo (psc_iff a4 (fun z hz hz6 => by
          rw [← hcl z]
          constructor
          · rintro ((q | q) | q)
            · exact Or.inl q
            · exact Or.inr (Or.inl q)
            · exact Or.inr (Or.inr q)
          · rintro (q | q | q)
            · exact Or.inl (Or.inl q)
            · exact Or.inl (Or.inr q)
            · exact Or.inr q))
        rw [show c + (1 + rgA (Brt B r) (onn N f s) (Unp B N f s r) m (v + 1) (cl (Brt B r) (onn N f s) (Unp B N f s r) M (61 + 5 * (v / 4) + v % 4))) = c + 1 + rgA (Brt B r) (onn N f s) (Unp B N f s r) m (v + 1) (cl (Brt B r) (onn N f s) (Unp B N f s r) M (61 + 5 * (v / 4) + v % 4)) by omega]
        exact ⟨g', b1, b2, b3⟩
      · have hp1 : g.1 34 v.toNat = I 1 := by
          by_cases hR : RLiv B r (61 + 5 * (v / 4) + v % 4)
          · have := (h5.1 _ hR (by omega)).1 (by
              by_cases hV : Mkd B N f s r (fun _ => True) (61 + 5 * (v / 4) + v % 4)
              · exact Or.inl hV
              · right
                by_cases hm : M (61 + 5 * (v / 4) + v % 4)
                · exact hm
                · exact absurd ⟨⟨hR, by omega, hV⟩, hm⟩ hU)
            rw [hsc] at this; exact this
          · exact h5.2 v h0 (by omega) hR
        rw [if_neg hU, hp1, if_neg (by decide), Option.bind_some, show (1 : Int32) = I 1 from rfl, I_add]
        exact ih m (v + 1) c M g (by omega) (by omega) (by omega) h3 h4 hM h5
end RNS
