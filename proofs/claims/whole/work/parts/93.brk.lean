/-! terms: a bracket -/
def Sk (τ τ' : St) (d : Int) : Prop := ∀ i : Int, 0 ≤ i → i < d → τ'.1 33 i.toNat = τ.1 33 i.toNat ∧ τ'.1 34 i.toNat = τ.1 34 i.toNat
theorem skk_tr {τ τ' τ'' : St} {d d' : Int} (h : Sk τ τ' d) (h' : Sk τ' τ'' d') (e : d ≤ d') : Sk τ τ'' d := fun i a b => ⟨by rw [(h' i a (by omega)).1, (h i a b).1], by rw [(h' i a (by omega)).2, (h i a b).2]⟩
theorem skk_eq {τ τ' : St} {d : Int} (e : ∀ c, c = 33 ∨ c = 34 → τ'.1 c = τ.1 c) : Sk τ τ' d := fun i _ _ => ⟨by rw [e 33 (by omega)], by rw [e 34 (by omega)]⟩
def JG (G : Prop) (D : DrT) (A : Int → Prop) (σ τ : St) : Prop := G → Al2 D → JR A σ τ
def Low (B : BkT) (D : DrT) (A : Int → Prop) : Prop := ∀ x, A x → Vx B D x ∨ 1200 ≤ x
theorem jg_fr {G : Prop} {D : DrT} {A : Int → Prop} {σ τ σ' τ' : St} (h : JG G D A σ τ) (e : σ'.1 3 = σ.1 3) (e' : τ'.1 29 = τ.1 29) : JG G D A σ' τ' := fun g a => jr_fr (h g a) e e'
def TermOK (F : Nat) (n : Int) (ch : Int → Int) (K : TkT) (N : Int) (B : BkT) (L : Int) (σ0 τ0 : St) (Df : Nat) (d : Int) : Prop := ∀ (k : Int) (D : DrT) (σ τ : St), Rel n ch K N B L σ0 τ0 k k D σ τ →
  (∃ cv σ' τ', f_X6_readTerm F Df (I d) σ = some (cv, σ') ∧ Flt σ0 τ0 σ' τ' ∧ ∃ M : Nat, (M : Int) ≤ N - k ∧ ∀ n', RT F (n' + M) d τ = some (I 0, τ')) ∨
  (∃ k' D' v cv σ' τ', k < k' ∧ f_X6_readTerm F Df (I d) σ = some (cv, σ') ∧ Rel n ch K N B L σ0 τ0 k' k' D' σ' τ' ∧ DXt D D' ∧ (0 ≤ v ∧ v ≤ 1210) ∧ τ'.1 0 60 = I v ∧ Sk τ τ' d ∧ (σ'.1 8 = σ.1 8 ∧ τ'.1 32 = τ.1 32) ∧ (∃ M : Nat, (M : Int) ≤ k' - k ∧ ∀ n' X, (∀ m : Nat, d + 2 ≤ m → RI F n' m d (I 0) τ' = X) → RT F (n' + M) d τ = X) ∧ (∀ (G : Prop) (A : Int → Prop), Low B D A → JG G D A σ τ → JG G D' (fun x => A x ∨ (Vx B D' x ∧ ¬ Vx B D x ∧ x ≠ v)) σ' τ') ∧ (Al2 D' → cv = I (pt v) ∧ Vx B D' v ∧ ¬ Vx B D v))
def CB (F Df : Nat) (a d z S : Int) (f : Nat) (i : Int) (σ : St) : Option St := Option.bind (Option.bind (f_X6_readBracket_L2 F (f_X6_readTerm F Df) (I a) (I d) f (I i) σ) (fun t14 => if (t14.2.1 (1) 4) = 0 then (Option.bind (f_X6_pass (41 : Int32) t14.2) fun s16 => some (t14.1, s16)) else (some (t14.1, t14.2)))) (fun x21 => f_X6_askBracket (I z) x21.1 (I S) x21.2)
theorem c_jif (x4 c1 cv : Int32) (σ : St) : ∃ g, (if x4 < (5 : Int32) then (Option.bind (some (f_X11_portCode c1 x4)) fun x7 => Option.bind (f_X1_join x7 cv σ) fun s8 => some s8) else some σ) = some g ∧ (∀ c, c ≠ 3 → g.1 c = σ.1 c) ∧ g.2 = σ.2 ∧ (x4 < 5 → f_X1_join (f_X11_portCode c1 x4) cv σ = some g) := by
  by_cases h : x4 < (5 : Int32)
  · obtain ⟨g, g1, g2, g3⟩ := c_join_any (f_X11_portCode c1 x4) cv σ
    exact ⟨g, by rw [if_pos h, Option.bind_some, g1]; rfl, g2, g3, fun _ => g1⟩
  · exact ⟨σ, by rw [if_neg h], fun _ _ => rfl, rfl, fun q => absurd q h⟩
theorem flt_c {σ0 τ0 σ τ g : St} (h : Flt σ0 τ0 σ τ) (e : ∀ c, c ≠ 3 → g.1 c = σ.1 c) (e2 : g.2 = σ.2) : Flt σ0 τ0 g τ := by
  obtain ⟨h1, h2, c, z, h3, h4, h5, h6, h7, h8⟩ := h
  refine ⟨⟨fun c a => by rw [e c (by omega)]; exact h1.1 c a, fun j a b c => by rw [e 1 (by omega)]; exact h1.2.1 j a b c, by rw [e 9 (by omega), e 2 (by omega)]; exact h1.2.2.1, fun c a b => by rw [e2]; exact h1.2.2.2 c a b⟩, h2, c, z, h3, h4, by rw [e 1 (by omega)]; exact h5, h6, by rw [e 1 (by omega)]; exact h7, h8⟩
theorem flt_ne {σ0 τ0 σ τ : St} (h : Flt σ0 τ0 σ τ) : ¬ (σ.1 1 4 = 0) := by
  obtain ⟨h1, h2, c, z, h3, h4, h5, h6, h7, h8⟩ := h
  rw [h5]
  intro q
  have := (Ieq (0) (0) (by omega) (by omega) (by omega) (by omega)).mp q
  omega
/-- an inner step of the reference -/
def jn29 (τ : St) (x v : Int) : St := seti (seti τ 29 x.toNat (I v)) 29 v.toNat (I x)
theorem ri_step {F : Nat} {n : Int} {ch : Int → Int} {K : TkT} {N k : Int} {τ : St} {a d z q v j : Int} (hF : 10000 ≤ F) (hK : Tks n ch K N) (h : AtM n ch K N k τ) (d0 : 0 ≤ d) (d1 : d < 12) (a0 : 0 ≤ a) (a1 : a < 200) (z0 : 0 ≤ z) (z1 : z < 16) (q0 : 1 ≤ q) (q1 : q ≤ 5) (v0 : 0 ≤ v) (v1 : v ≤ 1210) (j0 : 1 ≤ j) (j1 : j ≤ 5000) (e33 : τ.1 33 d.toNat = I a) (e34 : τ.1 34 d.toNat = I j) (e27 : τ.1 27 a.toNat = I z) (e18 : τ.1 18 z.toNat = I q) (e60 : τ.1 0 60 = I v) {τ4 : St} (e4 : τ4 = seti (if j < q then jn29 τ (5 * a + j) v else τ) 34 d.toNat (I (j + 1))) (n' m' : Nat) : (kT K k = 44 → RI F n' (m' + 1) (d + 1) (I 0) τ = Option.bind (f_X12_take F τ4) (fun s => RI F n' m' (d + 1) (I 1) s)) ∧ (kT K k = 41 → j + 1 = q → RI F n' (m' + 1) (d + 1) (I 0) τ = Option.bind (f_X12_take F (seti τ4 0 60 (I (5 * a)))) (fun s => RI F n' m' d (I 0) s)) ∧ (kT K k = 41 → j + 1 ≠ q → RI F n' (m' + 1) (d + 1) (I 0) τ = tkE (I a, τ4)) ∧ (kT K k ≠ 44 → kT K k ≠ 41 → RI F n' (m' + 1) (d + 1) (I 0) τ = tkA τ4) := by
  have fr : ∀ c, c ≠ 29 → c ≠ 34 → τ4.1 c = τ.1 c := fun c x y => by
    rw [e4, seti_r y]
    by_cases w : j < q
    · rw [if_pos w]; unfold jn29; rw [seti_r x, seti_r x]
    · rw [if_neg w]
  have fr2 : τ4.2 = τ.2 := by
    rw [e4, seti2]
    by_cases w : j < q
    · rw [if_pos w]; rfl
    · rw [if_neg w]
  have at4 : AtM n ch K N k τ4 := atm_fr h (fr 1 (by omega) (by omega)) (fun i x => by rw [fr 0 (by omega) (by omega)]) (by rw [fr2])
  have s44 := m_sg hK at4 (c := 44) (by decide)
  have s41 := m_sg hK at4 (c := 41) (by decide)
  have jn : (if I j < I q then (Option.bind (f_X12_join (I 5 * I a + I j) (I v) τ) fun s19 => some s19) else some τ) = some (if j < q then jn29 τ (5 * a + j) v else τ) := by
    by_cases w : j < q
    · rw [if_pos ((I_lt (by omega) (by omega) (by omega) (by omega)).mpr w), if_pos w, I_mul, I_add, m_join (by omega) (by omega) v0 (by omega)]; rfl
    · rw [if_neg (fun x => w ((I_lt (by omega) (by omega) (by omega) (by omega)).mp x)), if_neg w]
  have e34' : (if j < q then jn29 τ (5 * a + j) v else τ).1 34 d.toNat = I j := by
    by_cases w : j < q
    · rw [if_pos w]; unfold jn29; rw [seti_r (by omega), seti_r (by omega)]; exact e34
    · rw [if_neg w]; exact e34
  have e34'' : τ4.1 34 d.toNat = I (j + 1) := by rw [e4, seti1, if_pos ⟨rfl, rfl⟩]
  have red : ∀ Y : Option (Int32 × St), (Option.bind (some (f_X12_isSign (I 44) τ4)) fun x24 => Option.bind (some (fun (t26 : Int32 × Int32 × St) => Option.bind (f_X12_take F t26.2.2) fun s28 => f_X12_readTerm_L236 F (fun t38 => f_X12_readTerm_L2 F tkA tkB tkC tkD tkE tkA tkC n' t38.1 t38.2) (fun t39 => tkE (t39.1, t39.2)) (fun t40 => tkA t40) m' t26.1 t26.2.1 s28)) fun jp27 => if x24 = I 0 then (Option.bind (some (f_X12_isSign (I 41) τ4)) fun x30 => if x30 = I 0 then tkA τ4 else (if τ4.1 34 d.toNat = I q then (Option.bind (some (seti τ4 0 60 (I (5 * a)))) fun s36 => Option.bind (some (I d)) fun x37 => jp27 (x37, I 0, s36)) else tkE (I a, τ4))) else jp27 (I (d + 1), I 1, τ4)) = Y → RI F n' (m' + 1) (d + 1) (I 0) τ = Y := by
    intro Y hY
    unfold RI
    rw [f_X12_readTerm_L236, if_pos (show I 0 = (0 : Int32) from rfl), if_neg (fun x => by have := (Ieq (0) (0) (by omega) (by omega) (by omega) (by omega)).mp x; omega)]
    have ed : I (d + 1) - (1 : Int32) = I d := by rw [show (1 : Int32) = I 1 from rfl, I_sub, show d + 1 - 1 = d by omega]
    have ed2 : I (d + 1) + (-1 : Int32) = I d := by rw [show (-1 : Int32) = I (-1) from rfl, I_add, show d + 1 + -1 = d by omega]
    have i12 : inb (I d) 12 = true := (I_inb (by omega) (by omega)).mpr ⟨d0, by omega⟩
    have i200 : inb (I a) 200 = true := (I_inb (by omega) (by omega)).mpr ⟨a0, by omega⟩
    have i16 : inb (I z) 16 = true := (I_inb (by omega) (by omega)).mpr ⟨z0, by omega⟩
    have xd : ix (I d) = d.toNat := I_ix (by omega) (by omega)
    have xa : ix (I a) = a.toNat := I_ix (by omega) (by omega)
    have xz : ix (I z) = z.toNat := I_ix (by omega) (by omega)
    have jn' : (if I j < I q then (Option.bind (f_X12_join ((5 : Int32) * I a + I j) (I v) τ) fun s19 => some s19) else some τ) = some (if j < q then jn29 τ (5 * a + j) v else τ) := jn
    have ej : I j + (1 : Int32) = I (j + 1) := by rw [show (1 : Int32) = I 1 from rfl, I_add]
    rw [ed, if_pos i12, xd, e33, Option.bind_some, if_pos i12, e34, Option.bind_some, if_pos i200, xa, e27, if_pos i16, xz, e18, Option.bind_some, e60, jn', Option.bind_some, Option.bind_some, if_pos i12, if_pos i12, xd, e34', ej, Option.bind_some, ← e4]
    rw [← hY, ed2]
    have e5a : (5 : Int32) * I a = I (5 * a) := by rw [show (5 : Int32) = I 5 from rfl, I_mul]
    simp only [if_pos i12, e5a, xd]
    rfl
  refine ⟨fun t => red _ ?_, fun t e => red _ ?_, fun t e => red _ ?_, fun t t' => red _ ?_⟩
  · rw [s44, if_pos t, Option.bind_some, Option.bind_some, if_neg (by decide)]; rfl
  · rw [s44, if_neg (by rw [t]; decide), Option.bind_some, Option.bind_some, if_pos rfl, s41, if_pos t, Option.bind_some, if_neg (by decide), e34'', if_pos (by rw [e]), Option.bind_some, Option.bind_some]; rfl
  · rw [s44, if_neg (by rw [t]; decide), Option.bind_some, Option.bind_some, if_pos rfl, s41, if_pos t, Option.bind_some, if_neg (by decide), e34'', if_neg (fun x => e ((I_eq (by omega) (by omega) (by omega) (by omega)).mp x))]
  · rw [s44, if_neg t, Option.bind_some, Option.bind_some, if_pos rfl, s41, if_neg t', Option.bind_some, if_pos rfl]
theorem ri_one {F n' m' : Nat} {d : Int} {τ : St} : RI F n' (m' + 1) d (I 1) τ = RT F n' d τ := by
  unfold RI
  rw [f_X12_readTerm_L236, if_neg (show ¬ (I 1 = (0 : Int32)) by decide)]
  rfl
