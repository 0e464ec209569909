/-! free ends of a sheet -/
def ne1 (D : DrT) (v : Int) : Int := cnt (fun n => decide (Dtm D n = 1)) v.toNat
theorem ne1_suc {D : DrT} {v : Int} (h : 0 ≤ v) : ne1 D (v + 1) = ne1 D v + if Dtm D v = 1 then 1 else 0 := by
  unfold ne1
  rw [show (v + 1).toNat = v.toNat + 1 by omega, cnt, show ((v.toNat : Nat) : Int) = v by omega]
  by_cases e : Dtm D v = 1
  · rw [if_pos e, if_pos (decide_eq_true e)]
  · rw [if_neg e, if_neg (by rw [decide_eq_false e]; decide)]
theorem ne1_b {D : DrT} {v : Int} (h : 0 ≤ v) : 0 ≤ ne1 D v ∧ ne1 D v ≤ v := by
  have := cnt_b (fun n => decide (Dtm D n = 1)) v.toNat
  unfold ne1
  omega
theorem ne1_mono {D : DrT} {u : Int} (hu : 0 ≤ u) : ∀ d : Nat, ne1 D u ≤ ne1 D (u + d)
  | 0 => by rw [show u + ((0 : Nat) : Int) = u by omega]; exact Int.le_refl _
  | d + 1 => by
    have := ne1_mono (D := D) hu d
    rw [show u + ((d + 1 : Nat) : Int) = u + d + 1 by omega, ne1_suc (by omega)]
    split <;> omega
theorem ne1_lt {D : DrT} {u v : Int} (hu : 0 ≤ u) (h : u < v) (ht : Dtm D u = 1) : ne1 D u < ne1 D v := by
  have := ne1_mono (D := D) (u := u + 1) (by omega) (v - (u + 1)).toNat
  rw [show u + 1 + (((v - (u + 1)).toNat : Nat) : Int) = v by omega, ne1_suc hu, if_pos ht] at this
  omega
theorem ne1_ex {D : DrT} : ∀ (k : Nat) (e : Int), 0 ≤ e → e < ne1 D k → ∃ n, 0 ≤ n ∧ n < k ∧ Dtm D n = 1 ∧ ne1 D n = e
  | 0, e, h0, h1 => by
    have : ne1 D ((0 : Nat) : Int) = 0 := rfl
    omega
  | k + 1, e, h0, h1 => by
    rw [show ((k + 1 : Nat) : Int) = (k : Int) + 1 by omega, ne1_suc (by omega)] at h1
    by_cases ht : Dtm D k = 1
    · rw [if_pos ht] at h1
      by_cases q : e < ne1 D k
      · obtain ⟨n, a, b, c, d⟩ := ne1_ex (D := D) k e h0 q
        exact ⟨n, a, by omega, c, d⟩
      · exact ⟨k, by omega, by omega, ht, by omega⟩
    · rw [if_neg ht] at h1
      obtain ⟨n, a, b, c, d⟩ := ne1_ex (D := D) k e h0 (by omega)
      exact ⟨n, a, by omega, c, d⟩
def AeI (D : DrT) (σ : St) (v : Int) (g : St) : Prop := (∀ c, c ≠ 2 → c ≠ 3 → c ≠ 6 → g.1 c = σ.1 c) ∧ g.2 = σ.2 ∧ (∀ j, j ≠ 7 → g.1 2 j = σ.1 2 j) ∧ g.1 2 7 = I (ne1 D v) ∧ (∀ m, 0 ≤ m → m < Dnn D → g.1 6 m.toNat = I (if m < v ∧ Dtm D m = 1 ∧ ne1 D m < 8 then 2 else Dtm D m)) ∧ (∀ q : Int, 0 ≤ q → (∀ m, 0 ≤ m → m < v → Dtm D m = 1 → ne1 D m < 8 → q ≠ 1600 + 2 * m + 1 ∧ q ≠ 1720 + ne1 D m) → g.1 3 q.toNat = σ.1 3 q.toNat) ∧ (∀ m, 0 ≤ m → m < v → Dtm D m = 1 → ne1 D m < 8 → g.1 3 (1600 + 2 * m + 1).toNat = I (1720 + ne1 D m) ∧ g.1 3 (1720 + ne1 D m).toNat = I (1600 + 2 * m + 1))
section AEN
variable {n : Int} {ch : Int → Int} {K : TkT} {N : Int} {B : BkT} {L T : Int} {D : DrT} {σ τ : St} {F : Nat}
theorem c_addEnds_L (hV : DrV B L T D) (hT : T < 100000) (hC : DrC D σ) : ∀ (m : Nat) (v : Int) (g : St), 0 ≤ v → v ≤ Dnn D → Dnn D - v < m → AeI D σ v g → ∃ g', f_X1_addEnds_L2 F m (I v) g = some g' ∧ AeI D σ (Dnn D) g' := by
  have h60 := hV.2.2.2.2.1
  intro m
  induction m with
  | zero => intro v g h0 h1 h2; omega
  | succ m ih =>
    intro v g h0 h1 h2 hI
    obtain ⟨i1, i2, i3, i4, i5, i6, i7⟩ := hI
    have g26 : g.1 2 6 = I (Dnn D) := by rw [i3 6 (by omega)]; exact hC.2.1
    have nb := ne1_b (D := D) h0
    rw [f_X1_addEnds_L2, g26]
    by_cases hv : v = Dnn D
    · rw [if_neg (fun q => by have := (I_lt (by omega) (by omega) (by omega) (by omega)).mp q.1; omega)]
      exact ⟨g, rfl, by rw [← hv]; exact ⟨i1, i2, i3, i4, i5, i6, i7⟩⟩
    · have hc : (I v < I (Dnn D)) ∧ (I v < (60 : Int32)) := ⟨(I_lt (by omega) (by omega) (by omega) (by omega)).mpr (by omega), (Ilt (60) (60) (by omega) (by omega) (by omega) (by omega)).mpr (by omega)⟩
      have hin : inb (I v) 60 = true := (I_inb (by omega) (by omega)).mpr ⟨by omega, by omega⟩
      have hix : ix (I v) = v.toNat := I_ix (by omega) (by omega)
      have g6 := i5 v h0 (by omega)
      rw [if_neg (by omega)] at g6
      have tv := hV.2.2.2.2.2 v h0 (by omega)
      have ev : I v + (1 : Int32) = I (v + 1) := by rw [show (1 : Int32) = I 1 from rfl, I_add]
      rw [if_pos hc, if_pos hin, hix, g6, ev]
      by_cases ht : Dtm D v = 1
      · have es : ne1 D (v + 1) = ne1 D v + 1 := by rw [ne1_suc h0, if_pos ht]
        rw [ht, if_pos (show I 1 = (1 : Int32) from rfl), i4]
        by_cases h8 : ne1 D v < 8
        · have cs := c_stand (σ := g) h0 (show v < 60 by omega) (t := 1) (by omega) (by omega) (by rw [g6, ht])
          rw [if_pos (show (1 : Int) < 2 by omega), show 1600 + 2 * v + 1 = 1600 + 2 * v + 1 from rfl] at cs
          have sb := slv_b nb.1 h8
          have vy : Vok (1000 + 2 * v + 1) := Or.inl (by omega)
          have vx : Vok (slv (ne1 D v)) := Or.inr (by omega)
          have py : pt (1000 + 2 * v + 1) = 1600 + 2 * v + 1 := by
            unfold pt
            rw [if_neg (by omega), if_pos (by omega)]; omega
          have cj := c_join vx vy (seti g 6 v.toNat (I (1 + 1)))
          rw [sb.2.2.2.2, py] at cj
          rw [if_pos ((Ilt (8) (8) (by omega) (by omega) (by omega) (by omega)).mpr h8), cs, Option.bind_some, show (1720 : Int32) + I (ne1 D v) = I (1720 + ne1 D v) by rw [show (1720 : Int32) = I 1720 from rfl, I_add], cj, Option.bind_some, Option.bind_some]
          have g27 : (seti (seti (seti g 6 v.toNat (I (1 + 1))) 3 (1720 + ne1 D v).toNat (I (1600 + 2 * v + 1))) 3 (1600 + 2 * v + 1).toNat (I (1720 + ne1 D v))).1 2 7 = I (ne1 D v) := by rw [seti_r (by omega), seti_r (by omega), seti_r (by omega)]; exact i4
          rw [g27, show I (ne1 D v) + (1 : Int32) = I (ne1 D v + 1) by rw [show (1 : Int32) = I 1 from rfl, I_add], Option.bind_some, Option.bind_some]
          refine ih (v + 1) _ (by omega) (by omega) (by omega) ⟨fun c x y z => ?_, ?_, fun j x => ?_, ?_, fun q x y => ?_, fun q x y => ?_, fun q x y z w => ?_⟩
          · rw [seti_r x, seti_r y, seti_r y, seti_r z]; exact i1 c x y z
          · exact i2
          · rw [seti1, if_neg (by omega), seti_r (by omega), seti_r (by omega), seti_r (by omega)]; exact i3 j x
          · rw [seti1, if_pos ⟨rfl, rfl⟩, es]
          · rw [seti_r (by omega), seti_r (by omega), seti_r (by omega), seti1]
            by_cases e : q = v
            · rw [if_pos ⟨rfl, by rw [e]⟩, if_pos ⟨by omega, by rw [e]; exact ht, by rw [e]; exact h8⟩]; rfl
            · rw [if_neg (by omega), i5 q x y]
              by_cases e2 : q < v ∧ Dtm D q = 1 ∧ ne1 D q < 8
              · rw [if_pos e2, if_pos ⟨by omega, e2.2⟩]
              · rw [if_neg e2, if_neg (fun w => e2 ⟨by omega, w.2⟩)]
          · have yv := y v h0 (by omega) ht h8
            rw [seti_r (by omega), seti1, if_neg (by omega), seti1, if_neg (by omega), seti_r (by omega)]
            exact i6 q x (fun m' a b c d => y m' a (by omega) c d)
          · by_cases e : q = v
            · rw [e]
              refine ⟨?_, ?_⟩
              · rw [seti_r (by omega), seti1, if_pos ⟨rfl, rfl⟩]
              · rw [seti_r (by omega), seti1, if_neg (by omega), seti1, if_pos ⟨rfl, rfl⟩]
            · have hq := ne1_lt (D := D) x (show q < v by omega) z
              have qb := ne1_b (D := D) x
              have := i7 q x (by omega) z w
              refine ⟨?_, ?_⟩
              · rw [seti_r (by omega), seti1, if_neg (by omega), seti1, if_neg (by omega), seti_r (by omega)]
                exact this.1
              · rw [seti_r (by omega), seti1, if_neg (by omega), seti1, if_neg (by omega), seti_r (by omega)]
                exact this.2
        · rw [if_neg (fun q => h8 ((Ilt (8) (8) (by omega) (by omega) (by omega) (by omega)).mp q)), Option.bind_some, i4, show I (ne1 D v) + (1 : Int32) = I (ne1 D v + 1) by rw [show (1 : Int32) = I 1 from rfl, I_add], Option.bind_some, Option.bind_some]
          refine ih (v + 1) _ (by omega) (by omega) (by omega) ⟨fun c x y z => ?_, i2, fun j x => ?_, ?_, fun q x y => ?_, fun q x y => ?_, fun q x y z w => ?_⟩
          · rw [seti_r x]; exact i1 c x y z
          · rw [seti1, if_neg (by omega)]; exact i3 j x
          · rw [seti1, if_pos ⟨rfl, rfl⟩, es]
          · rw [seti_r (by omega), i5 q x y]
            by_cases e2 : q < v ∧ Dtm D q = 1 ∧ ne1 D q < 8
            · rw [if_pos e2, if_pos ⟨by omega, e2.2⟩]
            · rw [if_neg e2, if_neg (fun w => by
                by_cases e : q = v
                · rw [e] at w; exact h8 w.2.2
                · exact e2 ⟨by omega, w.2⟩)]
          · rw [seti_r (by omega)]
            exact i6 q x (fun m' a b c d => y m' a (by omega) c d)
          · rw [seti_r (by omega)]
            by_cases e : q = v
            · rw [e] at w; exact absurd w h8
            · exact i7 q x (by omega) z w
      · have es : ne1 D (v + 1) = ne1 D v := by rw [ne1_suc h0, if_neg ht, Int.add_zero]
        rw [if_neg (fun q => ht ((Ieq (1) (1) (by omega) (by omega) (by omega) (by omega)).mp q)), Option.bind_some]
        refine ih (v + 1) _ (by omega) (by omega) (by omega) ⟨i1, i2, i3, by rw [es]; exact i4, fun q x y => ?_, fun q x y => i6 q x (fun m' a b c d => y m' a (by omega) c d), fun q x y z w => ?_⟩
        · rw [i5 q x y]
          by_cases e2 : q < v ∧ Dtm D q = 1 ∧ ne1 D q < 8
          · rw [if_pos e2, if_pos ⟨by omega, e2.2⟩]
          · rw [if_neg e2, if_neg (fun w => by
              by_cases e : q = v
              · rw [e] at w; exact ht w.2.1
              · exact e2 ⟨by omega, w.2⟩)]
        · by_cases e : q = v
          · rw [e] at z; exact absurd z ht
          · exact i7 q x (by omega) z w
theorem c_addEnds (hF : 10000 ≤ F) (hV : DrV B L T D) (hT : T < 100000) (hC : DrC D σ) (h7 : σ.1 2 7 = I 0) : ∃ g', f_X1_addEnds F σ = some g' ∧ AeI D σ (Dnn D) g' := by
  have h60 := hV.2.2.2.2.1
  have h0 := hV.2.2.2.1
  obtain ⟨g', a1, a2⟩ := c_addEnds_L (F := F) hV hT hC F 0 σ (by omega) h0 (by omega) ⟨fun _ _ _ _ => rfl, rfl, fun _ _ => rfl, h7, fun q x y => by rw [if_neg (by omega)]; exact (hC.2.2.2 q x y).2.1, fun _ _ _ => rfl, fun q x y => by omega⟩
  refine ⟨g', ?_, a2⟩
  unfold f_X1_addEnds
  have a1' : f_X1_addEnds_L2 F F (0 : Int32) σ = some g' := a1
  rw [a1']; rfl
/-- a name that stands so often -/
theorem c_hasName (hF : 10000 ≤ F) {g : St} {tm : Int → Int} {a b : Int} (n0 : 0 ≤ Dnn D) (n60 : Dnn D ≤ 60) (g26 : g.1 2 6 = I (Dnn D)) (g6 : ∀ m, 0 ≤ m → m < Dnn D → g.1 6 m.toNat = I (tm m) ∧ 0 ≤ tm m ∧ tm m < 100000) (a0 : 0 ≤ a) (a1 : a < 100000) (b0 : 0 ≤ b) (b1 : b < 100000) : ((∃ m, 0 ≤ m ∧ m < Dnn D ∧ a ≤ tm m ∧ tm m ≤ b) → f_X1_hasNameStanding F (I a) (I b) g = some (I 1)) ∧ ((∀ m, 0 ≤ m → m < Dnn D → ¬ (a ≤ tm m ∧ tm m ≤ b)) → f_X1_hasNameStanding F (I a) (I b) g = some (I 0)) := by
  have step : ∀ (f : Nat) (v : Int), 0 ≤ v → v < Dnn D → f_X1_hasNameStanding_L2 F (I a) (I b) g (f + 1) (I v) = if a ≤ tm v ∧ tm v ≤ b then some (I 1) else f_X1_hasNameStanding_L2 F (I a) (I b) g f (I (v + 1)) := by
    intro f v v0 v1
    have gv := g6 v v0 v1
    rw [f_X1_hasNameStanding_L2, g26, if_pos ⟨(I_lt (by omega) (by omega) (by omega) (by omega)).mpr v1, (Ilt (60) (60) (by omega) (by omega) (by omega) (by omega)).mpr (by omega)⟩, if_pos ((I_inb (by omega) (by omega)).mpr ⟨by omega, by omega⟩ : inb (I v) 60 = true), show ix (I v) = v.toNat from I_ix (by omega) (by omega), gv.1, show I v + (1 : Int32) = I (v + 1) by rw [show (1 : Int32) = I 1 from rfl, I_add], Option.bind_some]
    by_cases e1 : a ≤ tm v
    · rw [if_pos ((I_le (by omega) (by omega) (by omega) (by omega)).mpr e1), if_pos ((I_inb (by omega) (by omega)).mpr ⟨by omega, by omega⟩ : inb (I v) 60 = true)]
      by_cases e2 : tm v ≤ b
      · rw [if_pos ((I_le (by omega) (by omega) (by omega) (by omega)).mpr e2), if_pos ⟨e1, e2⟩]; rfl
      · rw [if_neg (fun q => e2 ((I_le (by omega) (by omega) (by omega) (by omega)).mp q)), if_neg (fun q => e2 q.2)]
    · rw [if_neg (fun q => e1 ((I_le (by omega) (by omega) (by omega) (by omega)).mp q)), if_neg (fun q => e1 q.1)]
  have last : ∀ (f : Nat) (v : Int), 0 ≤ v → v ≤ 60 → Dnn D ≤ v → f_X1_hasNameStanding_L2 F (I a) (I b) g (f + 1) (I v) = some (I 0) := by
    intro f v v0 v6 v1
    rw [f_X1_hasNameStanding_L2, g26, if_neg (fun q => by have := (I_lt (by omega) (by omega) (by omega) (by omega)).mp q.1; omega)]
    rfl
  constructor
  · rintro ⟨m, m0, m1, m2, m3⟩
    have go : ∀ (f : Nat) (v : Int), 0 ≤ v → v ≤ m → m - v < f → f_X1_hasNameStanding_L2 F (I a) (I b) g f (I v) = some (I 1) := by
      intro f
      induction f with
      | zero => intro v x y z; omega
      | succ f ih =>
        intro v x y z
        rw [step f v x (by omega)]
        by_cases e : a ≤ tm v ∧ tm v ≤ b
        · rw [if_pos e]
        · rw [if_neg e]
          by_cases e2 : v = m
          · rw [e2] at e; exact absurd ⟨m2, m3⟩ e
          · exact ih (v + 1) (by omega) (by omega) (by omega)
    exact go F 0 (by omega) m0 (by omega)
  · intro hno
    have go : ∀ (f : Nat) (v : Int), 0 ≤ v → v ≤ Dnn D → Dnn D - v < f → f_X1_hasNameStanding_L2 F (I a) (I b) g f (I v) = some (I 0) := by
      intro f
      induction f with
      | zero => intro v x y z; omega
      | succ f ih =>
        intro v x y z
        by_cases e : v = Dnn D
        · exact last f v x (by omega) (by omega)
        · rw [step f v x (by omega), if_neg (hno v x (by omega))]
          exact ih (v + 1) (by omega) (by omega) (by omega)
    exact go F 0 (by omega) n0 (by omega)
/-- the reference counts its ends -/
theorem m_ends_L (hV : DrV B L T D) (hT : T < 100000) (hM : DrM L D τ) : ∀ (m : Nat) (v acc : Int) (g : St), 0 ≤ v → v ≤ Dnn D → Dnn D - v < m → (acc = 0 ∨ acc = 1) → g.2 = τ.2 → (∀ c, c ≠ 0 → c ≠ 36 → g.1 c = τ.1 c) → (∀ j, j ≠ 66 → g.1 0 j = τ.1 0 j) → g.1 0 66 = I (ne1 D v) → (∀ i, 0 ≤ i → i < v → g.1 36 i.toNat = I (ne1 D i)) → ∃ g' acc', f_X12_readNet_L74 F m (I acc) (I v) g = some (I acc', g') ∧ (acc' = 0 ∨ acc' = 1) ∧ (acc' = 1 ↔ (acc = 1 ∧ ∀ i, v ≤ i → i < Dnn D → Dtm D i ≤ 2)) ∧ g'.2 = τ.2 ∧ (∀ c, c ≠ 0 → c ≠ 36 → g'.1 c = τ.1 c) ∧ (∀ j, j ≠ 66 → g'.1 0 j = τ.1 0 j) ∧ g'.1 0 66 = I (ne1 D (Dnn D)) ∧ ∀ i, 0 ≤ i → i < Dnn D → g'.1 36 i.toNat = I (ne1 D i) := by
  have h60 := hV.2.2.2.2.1
  intro m
  induction m with
  | zero => intro v acc g h0 h1 h2; omega
  | succ m ih =>
    intro v acc g h0 h1 h2 ha g2 gc gj g66 g36
    have g54 : g.1 0 54 = I (Dnn D) := by rw [gj 54 (by omega)]; exact hM.2.2.1
    rw [f_X12_readNet_L74, g54]
    by_cases hv : v = Dnn D
    · rw [if_neg (by rw [hv]; exact Int32.lt_irrefl)]
      exact ⟨g, acc, rfl, ha, ⟨fun q => ⟨q, fun i x y => by omega⟩, fun q => q.1⟩, g2, gc, gj, by rw [← hv]; exact g66, by rw [← hv]; exact g36⟩
    · have hin : inb (I v) 60 = true := (I_inb (by omega) (by omega)).mpr ⟨by omega, by omega⟩
      have hix : ix (I v) = v.toNat := I_ix (by omega) (by omega)
      have tv := hV.2.2.2.2.2 v h0 (by omega)
      have g31 : g.1 31 v.toNat = I (Dtm D v) := by rw [gc 31 (by omega) (by omega)]; exact (hM.2.2.2.2 v h0 (by omega)).2
      have ev : I v + (1 : Int32) = I (v + 1) := by rw [show (1 : Int32) = I 1 from rfl, I_add]
      have acs : (Option.bind (some (fun (_ : Unit) => some (0 : Int32))) fun jp22 => if I acc = 0 then jp22 () else (if inb (I v) 60 = true then (if g.1 31 (ix (I v)) < (3 : Int32) then some (1 : Int32) else jp22 ()) else none)) = some (I (if acc = 1 ∧ Dtm D v ≤ 2 then 1 else 0)) := by
        rw [Option.bind_some, if_pos hin, hix, g31]
        rcases ha with e | e
        · rw [e]; rfl
        · rw [e, if_neg (show ¬ (I 1 = (0 : Int32)) by decide)]
          by_cases w : Dtm D v ≤ 2
          · rw [if_pos ((Ilt (3) (3) (by omega) (by omega) (by omega) (by omega)).mpr (by omega)), if_pos ⟨rfl, w⟩]; rfl
          · rw [if_neg (fun x => w (by have := (Ilt (3) (3) (by omega) (by omega) (by omega) (by omega)).mp x; omega)), if_neg (fun x => w x.2)]; rfl
      have s31 : (seti g 36 v.toNat (I (ne1 D v))).1 31 v.toNat = I (Dtm D v) := by rw [seti_r (by omega)]; exact g31
      have s66 : (seti g 36 v.toNat (I (ne1 D v))).1 0 66 = I (ne1 D v) := by rw [seti_r (by omega)]; exact g66
      have one : (if I (Dtm D v) = (1 : Int32) then some (1 : Int32) else some (0 : Int32)) = some (I (if Dtm D v = 1 then 1 else 0)) := by
        by_cases w : Dtm D v = 1
        · rw [if_pos (by rw [w]; rfl), if_pos w]; rfl
        · rw [if_neg (fun x => w ((Ieq (1) (1) (by omega) (by omega) (by omega) (by omega)).mp x)), if_neg w]; rfl
      rw [if_pos ((I_lt (by omega) (by omega) (by omega) (by omega)).mpr (by omega))]
      show ∃ g' acc', (Option.bind (Option.bind (some (fun (_ : Unit) => some (0 : Int32))) fun jp22 => if I acc = 0 then jp22 () else (if inb (I v) 60 = true then (if g.1 31 (ix (I v)) < (3 : Int32) then some (1 : Int32) else jp22 ()) else none)) _) = _ ∧ _
      rw [acs, Option.bind_some, if_pos hin, hix, g66, Option.bind_some, if_pos hin, s31, one, Option.bind_some, s66, I_add, Option.bind_some, ev, ← ne1_suc h0]
      obtain ⟨g', acc', c1, c2, c3, c4⟩ := ih (v + 1) (if acc = 1 ∧ Dtm D v ≤ 2 then 1 else 0) (seti (seti g 36 v.toNat (I (ne1 D v))) 0 66 (I (ne1 D (v + 1)))) (by omega) (by omega) (by omega) (by split; exact Or.inr rfl; exact Or.inl rfl) g2 (fun c x y => by rw [seti_r x, seti_r y]; exact gc c x y) (fun j x => by rw [seti1, if_neg (by omega), seti_r (by omega)]; exact gj j x) (by rw [seti1, if_pos ⟨rfl, rfl⟩]) (fun i x y => by
        rw [seti_r (by omega), seti1]
        by_cases e : i = v
        · rw [if_pos ⟨rfl, by rw [e]⟩, e]
        · rw [if_neg (by omega)]; exact g36 i x (by omega))
      refine ⟨g', acc', c1, c2, c3.trans ?_, c4⟩
      constructor
      · rintro ⟨q, w⟩
        have q' : acc = 1 ∧ Dtm D v ≤ 2 := by
          by_cases x : acc = 1 ∧ Dtm D v ≤ 2
          · exact x
          · rw [if_neg x] at q; omega
        refine ⟨q'.1, fun i x y => ?_⟩
        by_cases e : i = v
        · rw [e]; exact q'.2
        · exact w i (by omega) y
      · rintro ⟨q, w⟩
        exact ⟨if_pos ⟨q, w v (by omega) (by omega)⟩, fun i x y => w i (by omega) y⟩
end AEN
