/-! the sheet of a net -/
section NSH
variable {B : BkT} {L T : Int} {D : DrT} {σ τ g u : St} {F : Nat}
def isX (D : DrT) (x : Int) : Prop := 1000 ≤ x ∧ x % 2 = 1 ∧ Dtm D ((x - 1000) / 2) = 1
theorem vx_of (hV : DrV B L T D) (h2 : Al2 D) (x : Int) : Vx B D x ↔ (Agv B D x ∨ SNv D x) ∧ ¬ isX D x := by
  have h60 := hV.2.2.2.2.1
  unfold Vx Agv SNv isX
  constructor
  · rintro (q | q)
    · exact ⟨Or.inl q, fun w => by omega⟩
    · refine ⟨Or.inr (by omega), fun w => ?_⟩
      rw [w.2.2] at q
      omega
  · rintro ⟨q | q, w⟩
    · exact Or.inl q
    · have t := hV.2.2.2.2.2 ((x - 1000) / 2) (by omega) (by omega)
      have t2 := h2 ((x - 1000) / 2) (by omega) (by omega)
      refine Or.inr ⟨q.1, by omega, by omega, ?_⟩
      by_cases e : Dtm D ((x - 1000) / 2) = 1
      · have : x % 2 ≠ 1 := fun y => w ⟨q.1, y, e⟩
        omega
      · omega
theorem net_sheet (hK : KdV B) (hV : DrV B L T D) (hL : L ≤ 200) (h2 : Al2 D) (h8 : ne1 D (Dnn D) ≤ 8) (hJ : JR (Vx B D) σ τ) (hA : AeI D σ (Dnn D) g) (hM : DrM L D τ) (e29 : u.1 29 = τ.1 29) (e31 : u.1 31 = τ.1 31) (e36 : ∀ i, 0 ≤ i → i < Dnn D → u.1 36 i.toNat = I (ne1 D i)) : ∃ r Ou, ShtH B D Ou r ∧ CJ B D Ou r g ∧ MJ B D Ou r false u ∧ (∀ x, Ou x ↔ (1200 ≤ x ∧ x < 1210 ∧ 1 ≤ (x - 1200) % 5 ∧ pt x - 1720 < ne1 D (Dnn D))) ∧ (∀ m, 0 ≤ m → m < Dnn D → Dtm D m = 1 → r (slv (ne1 D m)) = 1000 + 2 * m + 1) := by
  obtain ⟨J, hJ⟩ := hJ
  have h60 := hV.2.2.2.2.1
  have h0 := hV.2.2.2.1
  have nb := ne1_b (D := D) h0
  have key : ∀ e, ∃ m, (0 ≤ e ∧ e < ne1 D (Dnn D)) → 0 ≤ m ∧ m < Dnn D ∧ Dtm D m = 1 ∧ ne1 D m = e := by
    intro e
    by_cases q : 0 ≤ e ∧ e < ne1 D (Dnn D)
    · obtain ⟨m, a, b, c, d⟩ := ne1_ex (D := D) (Dnn D).toNat e q.1 (by rw [show (((Dnn D).toNat : Nat) : Int) = Dnn D by omega]; exact q.2)
      exact ⟨m, fun _ => ⟨by omega, by omega, c, d⟩⟩
    · exact ⟨0, fun w => absurd w q⟩
  obtain ⟨nth, hnth⟩ : ∃ nth : Int → Int, ∀ e, 0 ≤ e → e < ne1 D (Dnn D) → 0 ≤ nth e ∧ nth e < Dnn D ∧ Dtm D (nth e) = 1 ∧ ne1 D (nth e) = e := ⟨fun e => Classical.choose (key e), fun e a b => Classical.choose_spec (key e) ⟨a, b⟩⟩
  have uq : ∀ m, 0 ≤ m → m < Dnn D → Dtm D m = 1 → nth (ne1 D m) = m := by
    intro m a b c
    have mb := ne1_b (D := D) a
    have ml := ne1_lt (D := D) a b c
    have := hnth (ne1 D m) mb.1 ml
    by_cases q : nth (ne1 D m) < m
    · have := ne1_lt (D := D) this.1 q this.2.2.1; omega
    · by_cases q2 : m < nth (ne1 D m)
      · have := ne1_lt (D := D) a q2 c; omega
      · omega
  obtain ⟨r, hr⟩ : ∃ r : Int → Int, ∀ x, r x = if 1200 ≤ x then 1000 + 2 * nth (pt x - 1720) + 1 else if 1000 ≤ x ∧ x % 2 = 1 ∧ Dtm D ((x - 1000) / 2) = 1 then slv (ne1 D ((x - 1000) / 2)) else J x := ⟨_, fun _ => rfl⟩
  obtain ⟨Ou, hOu⟩ : ∃ Ou : Int → Prop, ∀ x, Ou x ↔ (1200 ≤ x ∧ x < 1210 ∧ 1 ≤ (x - 1200) % 5 ∧ pt x - 1720 < ne1 D (Dnn D)) := ⟨_, fun _ => Iff.rfl⟩
  have ptO : ∀ x, 1200 ≤ x → x < 1210 → 1 ≤ (x - 1200) % 5 → slv (pt x - 1720) = x ∧ 0 ≤ pt x - 1720 ∧ pt x - 1720 < 8 := by
    intro x a b c
    unfold pt slv
    rw [if_neg (by omega), if_neg (by omega)]
    omega
  have rV : ∀ x, Vx B D x → r x = J x := by
    intro x hx
    have v1 := (vx_ok hx).2
    have v2 := ((vx_of hV h2 x).mp hx).2
    rw [hr, if_neg (by omega), if_neg (show ¬ (1000 ≤ x ∧ x % 2 = 1 ∧ Dtm D ((x - 1000) / 2) = 1) from v2)]
  have rX : ∀ m, 0 ≤ m → m < Dnn D → Dtm D m = 1 → r (1000 + 2 * m + 1) = slv (ne1 D m) := by
    intro m a b c
    have e : (1000 + 2 * m + 1 - 1000) / 2 = m := by omega
    rw [hr, if_neg (by omega), if_pos ⟨by omega, by omega, by rw [e]; exact c⟩, e]
  have rO : ∀ m, 0 ≤ m → m < Dnn D → Dtm D m = 1 → r (slv (ne1 D m)) = 1000 + 2 * m + 1 := by
    intro m a b c
    have mb := ne1_b (D := D) a
    have ml := ne1_lt (D := D) a b c
    have sb := slv_b mb.1 (show ne1 D m < 8 by omega)
    rw [hr, if_pos sb.1, sb.2.2.2.2, show 1720 + ne1 D m - 1720 = ne1 D m by omega, uq m a b c]
  have ouS : ∀ m, 0 ≤ m → m < Dnn D → Dtm D m = 1 → Ou (slv (ne1 D m)) := by
    intro m a b c
    have mb := ne1_b (D := D) a
    have ml := ne1_lt (D := D) a b c
    have sb := slv_b mb.1 (show ne1 D m < 8 by omega)
    exact (hOu _).mpr ⟨sb.1, sb.2.1, by omega, by omega⟩
  have ouN : ∀ x, Ou x → ∃ m, 0 ≤ m ∧ m < Dnn D ∧ Dtm D m = 1 ∧ x = slv (ne1 D m) := by
    intro x hx
    have q := (hOu x).mp hx
    have p := ptO x q.1 q.2.1 q.2.2.1
    have := hnth (pt x - 1720) p.2.1 q.2.2.2
    exact ⟨nth (pt x - 1720), this.1, this.2.1, this.2.2.1, by rw [this.2.2.2]; exact p.1.symm⟩
  have xN : ∀ x, SNv D x → isX D x → ∃ m, 0 ≤ m ∧ m < Dnn D ∧ Dtm D m = 1 ∧ x = 1000 + 2 * m + 1 := by
    intro x sx hx
    unfold SNv at sx
    exact ⟨(x - 1000) / 2, by omega, by omega, hx.2.2, by have := hx.2.1; omega⟩
  -- the three kinds of vertices
  have cases : ∀ x, Dmv B D Ou x → Vx B D x ∨ (∃ m, 0 ≤ m ∧ m < Dnn D ∧ Dtm D m = 1 ∧ x = 1000 + 2 * m + 1) ∨ (∃ m, 0 ≤ m ∧ m < Dnn D ∧ Dtm D m = 1 ∧ x = slv (ne1 D m)) := by
    intro x hx
    rcases hx with q | q | q
    · refine Or.inl ((vx_of hV h2 x).mpr ⟨Or.inl q, fun w => ?_⟩)
      unfold Agv at q
      have := w.1
      omega
    · by_cases w : isX D x
      · exact Or.inr (Or.inl (xN x q w))
      · exact Or.inl ((vx_of hV h2 x).mpr ⟨Or.inr q, w⟩)
    · exact Or.inr (Or.inr (ouN x q))
  have vD : ∀ x, Vx B D x → Dmv B D Ou x := fun x hx => by
    rcases ((vx_of hV h2 x).mp hx).1 with q | q
    · exact Or.inl q
    · exact Or.inr (Or.inl q)
  have hsh : ShtH B D Ou r := by
    refine ⟨hK, ⟨hV.1, by have := hV.2.1; omega⟩, hV.2.2.1, ⟨h0, h60⟩, fun x hx => ⟨((hOu x).mp hx).1, ((hOu x).mp hx).2.1, ((hOu x).mp hx).2.2.1⟩, fun x hx => ?_⟩
    rcases cases x hx with q | ⟨m, a, b, c, e⟩ | ⟨m, a, b, c, e⟩
    · have j := hJ x q
      rw [rV x q, rV _ j.2.1]
      exact ⟨vD _ j.2.1, j.2.2.1, j.2.2.2.1⟩
    · have mb := ne1_b (D := D) a
      have ml := ne1_lt (D := D) a b c
      have sb := slv_b mb.1 (show ne1 D m < 8 by omega)
      rw [e, rX m a b c, rO m a b c]
      exact ⟨Or.inr (Or.inr (ouS m a b c)), rfl, by omega⟩
    · have mb := ne1_b (D := D) a
      have ml := ne1_lt (D := D) a b c
      have sb := slv_b mb.1 (show ne1 D m < 8 by omega)
      rw [e, rO m a b c, rX m a b c]
      exact ⟨Or.inr (Or.inl (by unfold SNv; omega)), rfl, by omega⟩
  refine ⟨r, Ou, hsh, fun x hx => ?_, ⟨fun x hx hw => ?_, fun v a b => ?_, fun _ y hy => ?_⟩, hOu, rO⟩
  · obtain ⟨i1, i2, i3, i4, i5, i6, i7⟩ := hA
    rcases cases x hx with q | ⟨m, a, b, c, e⟩ | ⟨m, a, b, c, e⟩
    · have j := hJ x q
      have vo := vx_ok q
      have pb := ptv_b vo.1
      rw [rV x q, i6 (pt x) pb.1 (fun m a b c d => ?_)]
      · exact j.2.2.2.2.1
      · have mb := ne1_b (D := D) a
        have sb := slv_b mb.1 d
        have p1 : pt (1000 + 2 * m + 1) = 1600 + 2 * m + 1 := by
          unfold pt
          rw [if_neg (by omega), if_pos (by omega)]; omega
        refine ⟨fun w => ?_, fun w => ?_⟩
        · have : x = 1000 + 2 * m + 1 := ptv_inj vo.1 (Or.inl (by omega)) (by rw [w, p1])
          have ex := ((vx_of hV h2 x).mp q).2
          apply ex
          rw [this]
          exact ⟨by omega, by omega, by rw [show (1000 + 2 * m + 1 - 1000) / 2 = m by omega]; exact c⟩
        · have : x = slv (ne1 D m) := ptv_inj vo.1 (Or.inr (by omega)) (by rw [w, sb.2.2.2.2])
          have := vo.2
          omega
    · have mb := ne1_b (D := D) a
      have ml := ne1_lt (D := D) a b c
      have sb := slv_b mb.1 (show ne1 D m < 8 by omega)
      have p1 : pt (1000 + 2 * m + 1) = 1600 + 2 * m + 1 := by
        unfold pt
        rw [if_neg (by omega), if_pos (by omega)]; omega
      rw [e, rX m a b c, p1, sb.2.2.2.2]
      exact (i7 m a b c (by omega)).1
    · have mb := ne1_b (D := D) a
      have ml := ne1_lt (D := D) a b c
      have sb := slv_b mb.1 (show ne1 D m < 8 by omega)
      have p1 : pt (1000 + 2 * m + 1) = 1600 + 2 * m + 1 := by
        unfold pt
        rw [if_neg (by omega), if_pos (by omega)]; omega
      rw [e, rO m a b c, p1, sb.2.2.2.2]
      exact (i7 m a b c (by omega)).2
  · have hv : Vx B D x := by
      rcases hx with q | q | q
      · exact (vx_of hV h2 x).mpr ⟨Or.inl q, fun w => by unfold Agv at q; have := w.1; omega⟩
      · refine (vx_of hV h2 x).mpr ⟨Or.inr q, fun w => ?_⟩
        unfold SNv at q
        rcases hw with y | y | y
        · omega
        · rcases y.2 with z | z
          · rw [w.2.2] at z; omega
          · have := w.2.1; omega
        · exact absurd y.2 (by decide)
      · have := hsh.2.2.2.2.1 x q
        rcases hw with y | y | y
        · omega
        · omega
        · exact absurd y.2 (by decide)
    rw [e29, rV x hv]
    exact (hJ x hv).2.2.2.2.2
  · rw [e31]
    refine ⟨(hM.2.2.2.2 v a b).2, ?_⟩
    have t := hV.2.2.2.2.2 v a b
    have t2 := h2 v a b
    by_cases e : Dtm D v = 1
    · right
      have mb := ne1_b (D := D) a
      have ml := ne1_lt (D := D) a b e
      have sb := slv_b mb.1 (show ne1 D v < 8 by omega)
      refine ⟨e, rfl, ?_, ?_⟩
      · rw [rX v a b e]; exact ouS v a b e
      · rw [rX v a b e, sb.2.2.2.2, e36 v a b, show 1720 + ne1 D v - 1720 = ne1 D v by omega]
    · left; omega
  · obtain ⟨m, a, b, c, e⟩ := ouN y hy
    rw [e, rO m a b c]
    exact ⟨by unfold SNv; omega, by omega, by rw [show (1000 + 2 * m + 1 - 1000) / 2 = m by omega]; exact c⟩
end NSH
