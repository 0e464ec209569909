section KNE
variable {F : Nat} {n : Int} {ch : Int → Int} {K : TkT} {N : Int} {B : BkT} {σs τs : St} {W : Int64} {q : Int} {so : Int → Int} {k kc km : Int} {σ τ : St}
theorem ports_L (E : KEn F n ch K N B) : ∀ (m : Nat) (q : Int) (so : Int → Int) (k : Int) (σ τ : St), 1 ≤ q → kT K k ≠ 1 → N - k < m → RK n ch K N B σs τs W q so k k σ τ → (∃ σ' τ', f_X6_readPorts_L26 F m (I q) σ = some σ' ∧ (∀ c2 k0, f_X12_readKind_L102 F c2 k0 m (I 1) τ = some (I 0, τ')) ∧ FltK σs τs σ' τ') ∨ (∃ q' so' k' σ' τ', 1 ≤ q' ∧ k < k' ∧ f_X6_readPorts_L26 F m (I q) σ = some σ' ∧ (∀ c2 k0, f_X12_readKind_L102 F c2 k0 m (I 1) τ = k0 τ') ∧ RK n ch K N B σs τs W q' so' k' k' σ' τ') := by
  have hK := E.2.1
  intro m
  induction m with
  | zero => intro q so k σ τ _ _ hf h; have := h.1.2.2.1; omega
  | succ m ih =>
    intro q so k σ τ q1 hk1 hf h
    have k1 := h.1.2.2.1
    obtain ⟨m, rfl⟩ : ∃ m', m = m' + 1 := ⟨m - 1, by omega⟩
    have hkk := (tks_T hK h.1.2.1 h.1.2.2.1).2.1 hk1
    obtain ⟨σ1, A1, A2, A3⟩ := rk_adv E h
    obtain ⟨τ1, B1, B2, B3⟩ := rk_take E A3
    rw [hkk.1] at B3
    have eq : I q + (1 : Int32) = I (q + 1) := by rw [show (1 : Int32) = I 1 from rfl, I_add]
    rcases port_ok E B3 with ⟨σ2, τ2, C1, C2, C3⟩ | ⟨so', k', σ2, τ2, C0, C1, C2, C3, C4⟩
    · left
      refine ⟨σ2, τ2, ?_, fun c2 k0 => ?_, C3⟩
      · rw [f_X6_readPorts_L26, A1, Option.bind_some, C1, Option.bind_some, Option.bind_some, if_neg (fun w => fltk_ne C3 w.1)]
      · rw [f_X12_readKind_L102, if_neg (show ¬ (I 1 = (0 : Int32)) by decide), B1, Option.bind_some, C2, Option.bind_some, if_pos (show I 0 = (0 : Int32) from rfl)]
        rfl
    · have f0 : σ2.1 1 4 = (0 : Int32) := C4.2.2.2.2.2.2.2.1
      have gT : σ2.1 9 7 = I (kT K k') := C4.1.2.2.2.2.1
      have tt := tks_T hK C4.1.2.1 C4.1.2.2.1
      have tb := tt_b tt.1
      have e44 := m_sg hK C4.2.1 (c := 44) (by decide)
      by_cases t44 : kT K k' = 44
      · have cst : f_X6_readPorts_L26 F (m + 1 + 1) (I q) σ = f_X6_readPorts_L26 F (m + 1) (I (q + 1)) σ2 := by
          rw [f_X6_readPorts_L26, A1, Option.bind_some, C2, Option.bind_some, eq, Option.bind_some, if_pos ⟨f0, by rw [gT, t44]; rfl, fun w => by have := (Ilt' (5) (5) (by omega) (by omega) (by omega) (by omega)).mp w; omega⟩]
        have mst : ∀ c2 k0, f_X12_readKind_L102 F c2 k0 (m + 1 + 1) (I 1) τ = f_X12_readKind_L102 F c2 k0 (m + 1) (I 1) τ2 := by
          intro c2 k0
          rw [f_X12_readKind_L102, if_neg (show ¬ (I 1 = (0 : Int32)) by decide), B1, Option.bind_some, C3, Option.bind_some, if_neg (show ¬ (I 1 = (0 : Int32)) by decide), show (44 : Int32) = I 44 from rfl, e44, if_pos t44, Option.bind_some]
        rcases ih (q + 1) so' k' σ2 τ2 (by omega) (by rw [t44]; decide) (by omega) C4 with ⟨σ', τ', G1, G2, G3⟩ | ⟨q', so2, k2, σ', τ', G0, G1, G2, G3, G4⟩
        · left
          exact ⟨σ', τ', by rw [cst]; exact G1, fun c2 k0 => by rw [mst]; exact G2 c2 k0, G3⟩
        · right
          exact ⟨q', so2, k2, σ', τ', G0, by omega, by rw [cst]; exact G2, fun c2 k0 => by rw [mst]; exact G3 c2 k0, G4⟩
      · right
        refine ⟨q + 1, so', k', σ2, τ2, by omega, by omega, ?_, fun c2 k0 => ?_, C4⟩
        · rw [f_X6_readPorts_L26, A1, Option.bind_some, C2, Option.bind_some, eq, Option.bind_some, if_neg (fun w => by have := w.2.1; rw [gT] at this; exact t44 ((Ieq (44) (44) (by omega) (by omega) (by omega) (by omega)).mp this))]
        · rw [f_X12_readKind_L102, if_neg (show ¬ (I 1 = (0 : Int32)) by decide), B1, Option.bind_some, C3, Option.bind_some, if_neg (show ¬ (I 1 = (0 : Int32)) by decide), show (44 : Int32) = I 44 from rfl, e44, if_neg t44, Option.bind_some, f_X12_readKind_L102, if_pos (show I 0 = (0 : Int32) from rfl)]
theorem rk_pass (E : KEn F n ch K N B) {c : Int} (c0 : 0 ≤ c) (c1 : c < 256) (h : RK n ch K N B σs τs W q so kc km σ τ) : (kT K kc = c → ∃ g, f_X6_pass (I c) σ = some g ∧ FrV σ g ∧ RK n ch K N B σs τs W q so (nx N kc) km g τ) ∧ (kT K kc ≠ c → f_X6_pass (I c) σ = some (seti (seti σ 1 4 (I (wc (kT K kc)))) 1 7 (I (kS K kc)))) := by
  have tb := tt_b (tks_T E.2.1 h.1.2.1 h.1.2.2.1).1
  have sT : σ.1 9 7 = I (kT K kc) := h.1.2.2.2.2.1
  constructor
  · intro t
    obtain ⟨g, g1, g2, g3⟩ := rk_adv E h
    refine ⟨g, ?_, g2, g3⟩
    unfold f_X6_pass
    rw [sT, if_pos (by rw [t]), g1]; rfl
  · intro t
    unfold f_X6_pass
    rw [sT, if_neg (fun q => t ((I_eq (by omega) (by omega) (by omega) (by omega)).mp q)), c_wrong E.2.1 h.1]; rfl
def jpK : St → Option (Int32 × St) := fun t29 => Option.bind (some (f_X12_isSign (59 : Int32) t29)) fun x31 => if x31 = 0 then (Option.bind (f_X12_wrong t29) fun x34 => if x34.1 = 0 ∨ x34.1 = 1 then some (x34.1, x34.2) else none) else (Option.bind (some (seti t29 (0) 36 ((t29.1 (0) 36) + (1 : Int32)))) fun s36 => some ((1 : Int32), s36))
def kpK (F : Nat) (x21 : Int32) : St → Option (Int32 × St) := fun t28 => Option.bind (some jpK) fun jp30 => if x21 = 0 then jp30 t28 else (Option.bind (f_X12_needs F (41 : Int32) t28) fun x38 => if x38.1 = 0 then some ((0 : Int32), x38.2) else jp30 x38.2)
def KOut (n : Int) (ch : Int → Int) (K : TkT) (N : Int) (B : BkT) (σs τs : St) (k : Int) (W : Int64) (X : Option St) (Y : Option (Int32 × St)) : Prop :=
  (∃ σ' τ', X = some σ' ∧ Y = some (I 0, τ') ∧ FltK σs τs σ' τ') ∨ (∃ q so k' σ' τ', k < k' ∧ X = some σ' ∧ Y = some (I 1, τ') ∧ kT K k' = 59 ∧ AtC K N (k' + 1) σ' ∧ AtM n ch K N k' τ' ∧ FrK σs σ' ∧ FrL τs τ' ∧ KdC (addB B W q so) (σ'.1 15) (σ'.2 16) (σ'.1 17) (σ'.1 18) ∧ KdM (addB B W q so) (τ'.1 0 36) (τ'.2 17) (τ'.1 18) (τ'.1 19) (τ'.1 20) ∧ σ'.1 1 4 = I 0 ∧ 1 ≤ q ∧ q ≤ 5 ∧ ∀ p, 0 ≤ p → p < q → -26 ≤ so p ∧ so p < 26)
/-- the end of a kind, at ';' -/
theorem kind_end (E : KEn F n ch K N B) (q1 : 1 ≤ q) (h : RK n ch K N B σs τs W q so k k σ τ) (k0' : kc < k) : KOut n ch K N B σs τs kc W (if (σ.1 (1) 4) = 0 then (Option.bind (f_X6_pass (59 : Int32) σ) fun s20 => some s20) else some σ) (jpK τ) := by
  have hK := E.2.1
  have hV := E.2.2.2.1
  have kn := E.2.2.2.2
  have kn0 := hV.1
  have f0 : σ.1 1 4 = (0 : Int32) := h.2.2.2.2.2.2.2.1
  have rp := rk_pass E (c := 59) (by omega) (by omega) h
  have e59 := m_sg hK h.2.1 (c := 59) (by decide)
  have tt := tks_T hK h.1.2.1 h.1.2.2.1
  by_cases t : kT K k = 59
  · right
    obtain ⟨g, g1, g2, g3⟩ := rp.1 t
    rw [(tt.2.1 (by rw [t]; decide)).1] at g3
    obtain ⟨r1, r2, r3, r4, r5, r6, r7, r8, r9, r10, r11⟩ := g3
    refine ⟨q, so, k, g, seti τ 0 36 (I (Bkn B + 1)), k0', ?_, ?_, t, r1, atm_fr r2 (seti_r (by omega)) (fun j w => by rw [seti1, if_neg (by omega)]) rfl, r3, frl_tr r4 (frl_i (by omega)), r5, ?_, r8, q1, r10, r11⟩
    · rw [if_pos f0, show (59 : Int32) = I 59 from rfl, g1]; rfl
    · unfold jpK
      rw [show (59 : Int32) = I 59 from rfl, e59, if_pos t, Option.bind_some, if_neg (show ¬ (I 1 = (0 : Int32)) by decide), r7, show I (Bkn B) + (1 : Int32) = I (Bkn B + 1) by rw [show (1 : Int32) = I 1 from rfl, I_add]]
      rfl
    · rw [seti_r (show (18 : Nat) ≠ 0 by omega), seti_r (show (19 : Nat) ≠ 0 by omega), seti_r (show (20 : Nat) ≠ 0 by omega), seti1, if_pos ⟨rfl, rfl⟩]
      exact r6
  · left
    refine ⟨_, _, ?_, ?_, fltk_go (z := kS K k) h.2.2.1 h.2.2.2.1 (wc_b (kT K k)).1 (wc_b (kT K k)).2⟩
    · rw [if_pos f0, show (59 : Int32) = I 59 from rfl, rp.2 t]; rfl
    · unfold jpK
      rw [show (59 : Int32) = I 59 from rfl, e59, if_neg t, Option.bind_some, if_pos (show I 0 = (0 : Int32) from rfl), m_wrong hK h.2.1]
      rfl
/-- the ports of a kind, from the first on -/
theorem kind_ports (E : KEn F n ch K N B) (h : RK n ch K N B σs τs W 0 so k k σ τ) : KOut n ch K N B σs τs k W (f_X6_readPorts F σ) (Option.bind (f_X12_readPort F τ) fun x19 => if x19.1 = 0 then some ((0 : Int32), x19.2) else Option.bind (some (f_X12_isSign (40 : Int32) x19.2)) fun x21 => f_X12_readKind_L102 F x21 (kpK F x21) F x21 x19.2) := by
  have hK := E.2.1
  have hF := E.2.2.1
  have n4 := E.1.2.1
  have tN1 := hK.2.1
  obtain ⟨F', hF'⟩ : ∃ F', F = F' + 1 := ⟨F - 1, by omega⟩
  rcases port_ok E h with ⟨σ1, τ1, A1, A2, A3⟩ | ⟨so1, k1, σ1, τ1, A0, _, A1, A2, A3⟩
  · left
    have ne := fltk_ne A3
    refine ⟨σ1, τ1, ?_, ?_, A3⟩
    · unfold f_X6_readPorts
      rw [show f_X6_readPort (0 : Int32) σ = _ from A1, Option.bind_some, if_neg (fun w => ne w.1), Option.bind_some, if_neg ne]
    · rw [A2, Option.bind_some, if_pos (show I 0 = (0 : Int32) from rfl)]; rfl
  · rw [show (0 : Int) + 1 = 1 from rfl] at A3
    have f0 : σ1.1 1 4 = (0 : Int32) := A3.2.2.2.2.2.2.2.1
    have gT : σ1.1 9 7 = I (kT K k1) := A3.1.2.2.2.2.1
    have tt := tks_T hK A3.1.2.1 A3.1.2.2.1
    have tb := tt_b tt.1
    have k10 := A3.1.2.1
    have e40 := m_sg hK A3.2.1 (c := 40) (by decide)
    rw [A2, Option.bind_some, if_neg (show ¬ (I 1 = (0 : Int32)) by decide), show f_X12_isSign (40 : Int32) (I 1, τ1).2 = _ from e40, Option.bind_some]
    unfold f_X6_readPorts
    rw [show f_X6_readPort (0 : Int32) σ = _ from A1, Option.bind_some]
    by_cases t40 : kT K k1 = 40
    · rw [if_pos t40, if_pos ⟨f0, by rw [gT, t40]; rfl⟩]
      rcases ports_L (σs := σs) (τs := τs) (W := W) E F 1 so1 k1 σ1 τ1 (by omega) (by rw [t40]; decide) (by omega) A3 with ⟨σ2, τ2, C1, C2, C3⟩ | ⟨q2, so2, k2, σ2, τ2, C0, C1, C2, C3, C4⟩
      · left
        have ne := fltk_ne C3
        refine ⟨σ2, τ2, ?_, C2 _ _, C3⟩
        rw [show f_X6_readPorts_L26 F F (1 : Int32) σ1 = _ from C1, Option.bind_some, if_neg ne, Option.bind_some, if_neg ne]
      · have f2 : σ2.1 1 4 = (0 : Int32) := C4.2.2.2.2.2.2.2.1
        have rp := rk_pass E (c := 41) (by omega) (by omega) C4
        have e41 := m_sg hK C4.2.1 (c := 41) (by decide)
        have tt2 := tks_T hK C4.1.2.1 C4.1.2.2.1
        rw [show f_X6_readPorts_L26 F F (1 : Int32) σ1 = _ from C2, Option.bind_some, if_pos f2]
        have hY : f_X12_readKind_L102 F (I 1) (kpK F (I 1)) F (I 1) τ1 = kpK F (I 1) τ2 := C3 _ _
        rw [show f_X12_readKind_L102 F (I 1) (kpK F (I 1)) F (I 1) (I 1, τ1).2 = _ from hY]
        by_cases t41 : kT K k2 = 41
        · obtain ⟨g, g1, g2, g3⟩ := rp.1 t41
          obtain ⟨u, u1, u2, u3⟩ := rk_take E g3
          rw [(tt2.2.1 (by rw [t41]; decide)).1] at u3
          rw [show (41 : Int32) = I 41 from rfl, g1, Option.bind_some, Option.bind_some]
          have hk : kpK F (I 1) τ2 = jpK u := by
            unfold kpK f_X12_needs
            rw [Option.bind_some, if_neg (show ¬ (I 1 = (0 : Int32)) by decide), show (41 : Int32) = I 41 from rfl, e41, if_pos t41, Option.bind_some, if_neg (show ¬ (I 1 = (0 : Int32)) by decide), u1, Option.bind_some, Option.bind_some, if_neg (show ¬ ((1 : Int32) = 0) by decide)]
          rw [hk]
          exact kind_end E C0 u3 (by omega)
        · left
          have fg := fltk_go (z := kS K k2) C4.2.2.1 C4.2.2.2.1 (wc_b (kT K k2)).1 (wc_b (kT K k2)).2
          refine ⟨_, _, ?_, ?_, fg⟩
          · rw [show (41 : Int32) = I 41 from rfl, rp.2 t41, Option.bind_some, Option.bind_some, if_neg (fltk_ne fg)]
          · unfold kpK f_X12_needs
            rw [Option.bind_some, if_neg (show ¬ (I 1 = (0 : Int32)) by decide), show (41 : Int32) = I 41 from rfl, e41, if_neg t41, Option.bind_some, if_pos (show I 0 = (0 : Int32) from rfl), m_wrong hK C4.2.1]
            rfl
    · rw [if_neg t40, if_neg (fun w => by have := w.2; rw [gT] at this; exact t40 ((Ieq (40) (40) (by omega) (by omega) (by omega) (by omega)).mp this)), Option.bind_some]
      have hY : f_X12_readKind_L102 F (I 0) (kpK F (I 0)) F (I 0) (I 1, τ1).2 = jpK τ1 := by
        have : ∀ k0, f_X12_readKind_L102 F (I 0) k0 F (I 0) τ1 = k0 τ1 := by
          intro k0
          rw [hF', f_X12_readKind_L102, if_pos (show I 0 = (0 : Int32) from rfl)]
        rw [show f_X12_readKind_L102 F (I 0) (kpK F (I 0)) F (I 0) (I 1, τ1).2 = _ from this _]
        unfold kpK
        rw [Option.bind_some, if_pos (show I 0 = (0 : Int32) from rfl)]
      rw [hY]
      exact kind_end E (by omega) A3 A0
/-- a kind -/
theorem kind_ok (hA : TxA n ch) (hK : Tks n ch K N) (hF : 10000 ≤ F) (hV : KdV B) (hD : Dis B) (h1 : AtC K N k σ) (h2 : AtM n ch K N k τ) (hT : kT K k ≠ 1) (hC : KdC B (σ.1 15) (σ.2 16) (σ.1 17) (σ.1 18)) (hM : KdM B (τ.1 0 36) (τ.2 17) (τ.1 18) (τ.1 19) (τ.1 20)) (h8 : σ.1 1 4 = I 0) : ∃ W, KOut n ch K N B σ τ k W (f_X6_readKind F σ) (f_X12_readKind F τ) ∧ ((∃ σ', f_X6_readKind F σ = some σ' ∧ ¬ (σ'.1 1 4 = 0)) ∨ ((∀ i, 0 ≤ i → i < Bkn B → Bnm B i ≠ W) ∧ Bkn B < 16)) := by
  have n4 := hA.2.1
  have tN1 := hK.2.1
  have kn0 := hV.1
  have kn1 := hV.2.1
  have hk2 := (tks_T hK h1.2.1 h1.2.2.1).2.1 hT
  obtain ⟨σ1, A1, A2, A3⟩ := c_adv h1.1 hK.1 (by omega) (by have := h1.2.1; omega) h1.2.2.1 h1.2.2.2.1
  obtain ⟨τ1, B1, B2, B3⟩ := m_take_nx hA hF hK h2
  rw [hk2.1] at A3 B3
  have tt := tks_T hK A3.2.1 A3.2.2.1
  have tb := tt_b tt.1
  have mt := mty_c tt.1
  have sT : σ1.1 9 7 = I (kT K (k + 1)) := A3.2.2.2.2.1
  have sW : σ1.2 9 9 = kW K (k + 1) := A3.2.2.2.2.2.2
  have mT : τ1.1 0 29 = I (mty (kT K (k + 1))) := B3.2.2.2.1
  have mS : τ1.1 0 30 = I (kS K (k + 1)) := B3.2.2.2.2.1
  have hC1 : KdC B (σ1.1 15) (σ1.2 16) (σ1.1 17) (σ1.1 18) := by
    rw [A2.1 15 (by omega), A2.1 17 (by omega), A2.1 18 (by omega), A2.2.2.1 16 (by omega)]; exact hC
  have hM1 : KdM B (τ1.1 0 36) (τ1.2 17) (τ1.1 18) (τ1.1 19) (τ1.1 20) := by
    rw [B2.1 18 (by omega), B2.1 19 (by omega), B2.1 20 (by omega), B2.2.2.1 17 (by omega), B2.2.1 36 (by omega) (by omega) (by omega) (by omega) (by omega)]; exact hM
  by_cases t3 : kT K (k + 1) = 3
  · have hk3 := tt.2.1 (by rw [t3]; decide)
    have s3 : σ1.1 9 7 = (3 : Int32) := by rw [sT, t3]; rfl
    have m2 : τ1.1 0 29 = (2 : Int32) := by rw [mT, mt.2.1.mpr t3]; rfl
    have mW : τ1.2 0 32 = kW K (k + 1) := (B3.2.2.2.2.2.2.1 (Or.inr t3)).1
    obtain ⟨z, hz⟩ := find_z hD (kW K (k + 1))
    have cf := c_find hF hV hC1 hz
    have mf := m_find hF hV hM1 hz
    by_cases zn : z = -1
    · have hnew : ∀ i, 0 ≤ i → i < Bkn B → Bnm B i ≠ kW K (k + 1) := by
        rcases hz with w | w
        · exact w.2
        · omega
      by_cases h16 : Bkn B = 16
      · have fg := fltk_go (z := kS K (k + 1)) (c := 4) (frk_v A2) (frl_t B2) (by omega) (by omega)
        have ce : f_X6_readKind F σ = some (seti (seti σ1 1 4 (I 4)) 1 7 (I (kS K (k + 1)))) := by
          unfold f_X6_readKind f_X3_isFull
          rw [A1, Option.bind_some, if_pos s3, sW, cf, Option.bind_some, if_pos (by rw [zn]; rfl), hC1.1, if_pos (by rw [h16]; exact Int32.le_refl _), Option.bind_some, if_neg (show ¬ ((1 : Int32) = 0) by decide), show (4 : Int32) = I 4 from rfl, c_refuse A3]
          rfl
        refine ⟨0, Or.inl ⟨_, _, ce, ?_, fg⟩, Or.inl ⟨_, ce, fltk_ne fg⟩⟩
        unfold f_X12_readKind
        rw [B1, Option.bind_some, if_pos m2, mW, mf, Option.bind_some, if_neg (by rw [zn]; decide), hM1.1, if_pos (by rw [h16]; rfl), mS]
        rfl
      · refine ⟨kW K (k + 1), ?_, Or.inr ⟨hnew, by omega⟩⟩
        have i16 : inb (I (Bkn B)) 16 = true := (I_inb (by omega) (by omega)).mpr ⟨by omega, by omega⟩
        have xn : ix (I (Bkn B)) = (Bkn B).toNat := I_ix (by omega) (by omega)
        have s15 : σ1.1 15 3 = I (Bkn B) := hC1.1
        have ca : f_X3_add (kW K (k + 1)) σ1 = some (seti (seti (setl σ1 16 (Bkn B).toNat (kW K (k + 1))) 17 (Bkn B).toNat (I 0)) 15 3 (I (Bkn B + 1))) := by
          have e1 : (setl σ1 16 (Bkn B).toNat (kW K (k + 1))).1 15 3 = I (Bkn B) := s15
          have e2 : (seti (setl σ1 16 (Bkn B).toNat (kW K (k + 1))) 17 (Bkn B).toNat (I 0)).1 15 3 = I (Bkn B) := by rw [seti_r (by omega)]; exact s15
          unfold f_X3_add f_X3_isFull
          simp (maxSteps := 4000000) (disch := omega) only [I_lits, nz, nc, if_pos, if_neg, if_true, if_false, Option.bind_some, true_and, and_true, and_self, or_true, true_or, or_false, false_or, not_true_eq_false, not_false_eq_true, false_and, and_false, Bool.false_eq_true, decide_true, decide_false, eq_self, s15, e1, e2]
        have hE : KEn F n ch K N B := ⟨hA, hK, hF, hV, by omega⟩
        have hR : RK n ch K N B σ τ (kW K (k + 1)) 0 (fun _ => 0) (k + 1) (k + 1) (seti (seti (setl σ1 16 (Bkn B).toNat (kW K (k + 1))) 17 (Bkn B).toNat (I 0)) 15 3 (I (Bkn B + 1))) (seti (setl τ1 17 (Bkn B).toNat (kW K (k + 1))) 18 (Bkn B).toNat (I 0)) := by
          refine ⟨atc_fr A3 (fun c w => by rw [seti_r (by omega), seti_r (by omega)]; rfl) (fun c w => by rw [seti2, seti2, setl_r (by omega)]), atm_fr B3 (by rw [seti_r (by omega)]; rfl) (fun j w => by rw [seti_r (by omega)]; rfl) (by rw [seti2, setl_r (by omega)]), frk_tr (frk_v A2) (frk_tr frk_l (frk_tr (frk_i (by omega)) (frk_i (by omega)))), frl_tr (frl_t B2) (frl_tr frl_l (frl_i (by omega))), ⟨?_, fun a x y => ?_, fun a x y => ?_, fun a p x y z w => ?_⟩, ⟨rfl, fun a x y => ?_, fun a x y => ?_, fun a p x y z w => ?_⟩, ?_, ?_, by omega, by omega, fun p x y => by omega⟩
          · rw [seti1, if_pos ⟨rfl, rfl⟩]; rfl
          · have y' : a < Bkn B + 1 := y
            rw [seti2, seti2, setl2]
            show _ = if a = Bkn B then kW K (k + 1) else Bnm B a
            by_cases e : a = Bkn B
            · rw [if_pos ⟨rfl, by rw [e]⟩, if_pos e]
            · rw [if_neg (by omega), if_neg e]; exact hC1.2.1 a x (by omega)
          · have y' : a < Bkn B + 1 := y
            rw [seti_r (by omega), seti1]
            show _ = I (if a = Bkn B then 0 else Bpt B a)
            by_cases e : a = Bkn B
            · rw [if_pos ⟨rfl, by rw [e]⟩, if_pos e]
            · rw [if_neg (by omega), if_neg e]; exact hC1.2.2.1 a x (by omega)
          · have y' : a < Bkn B + 1 := y
            have w' : p < if a = Bkn B then 0 else Bpt B a := w
            have ea : a ≠ Bkn B := fun e => by rw [if_pos e] at w'; omega
            rw [if_neg ea] at w'
            have := hV.2.2.1 a x (by omega)
            rw [seti_r (by omega), seti_r (by omega)]
            show _ = I (if 5 * Bkn B ≤ 5 * a + p then 0 else Bso B (5 * a + p))
            rw [if_neg (by omega)]
            exact hC1.2.2.2 a p x (by omega) z w'
          · have y' : a < Bkn B + 1 := y
            rw [seti2, setl2]
            show _ = if a = Bkn B then kW K (k + 1) else Bnm B a
            by_cases e : a = Bkn B
            · rw [if_pos ⟨rfl, by rw [e]⟩, if_pos e]
            · rw [if_neg (by omega), if_neg e]; exact hM1.2.1 a x (by omega)
          · have y' : a < Bkn B + 1 := y
            rw [seti1]
            show _ = I (if a = Bkn B then 0 else Bpt B a)
            by_cases e : a = Bkn B
            · rw [if_pos ⟨rfl, by rw [e]⟩, if_pos e]
            · rw [if_neg (by omega), if_neg e]; exact hM1.2.2.1 a x (by omega)
          · have y' : a < Bkn B + 1 := y
            have w' : p < if a = Bkn B then 0 else Bpt B a := w
            have ea : a ≠ Bkn B := fun e => by rw [if_pos e] at w'; omega
            rw [if_neg ea] at w'
            have := hV.2.2.1 a x (by omega)
            have eb : Bso (addB B (kW K (k + 1)) 0 (fun _ => 0)) (5 * a + p) = Bso B (5 * a + p) := by
              show (if 5 * Bkn B ≤ 5 * a + p then 0 else Bso B (5 * a + p)) = _
              rw [if_neg (by omega)]
            rw [eb, seti_r (by omega), seti_r (by omega)]
            exact hM1.2.2.2 a p x (by omega) z w'
          · rw [seti_r (by omega)]; exact hM1.1
          · rw [seti_r (by omega), seti_r (by omega)]
            show σ1.1 1 4 = I 0
            rw [A2.1 1 (by omega)]; exact h8
        obtain ⟨σ2, C1, C2, C3⟩ := rk_adv hE hR
        obtain ⟨τ2, D1, D2, D3⟩ := rk_take hE C3
        rw [hk3.1] at D3
        have kp := kind_ports hE D3
        have cc : f_X6_readKind F σ = f_X6_readPorts F σ2 := by
          unfold f_X6_readKind f_X3_isFull
          rw [A1, Option.bind_some, if_pos s3, sW, cf, Option.bind_some, if_pos (by rw [zn]; rfl), s15, if_neg (fun w => by have := (Ile' (16) (16) (by omega) (by omega) (by omega) (by omega)).mp w; omega), Option.bind_some, if_pos rfl, ca, Option.bind_some, C1, Option.bind_some]
          cases f_X6_readPorts F σ2 <;> rfl
        have mm : f_X12_readKind F τ = (Option.bind (f_X12_readPort F τ2) fun x19 => if x19.1 = 0 then some ((0 : Int32), x19.2) else Option.bind (some (f_X12_isSign (40 : Int32) x19.2)) fun x21 => f_X12_readKind_L102 F x21 (kpK F x21) F x21 x19.2) := by
          unfold f_X12_readKind
          have e1 : (setl τ1 17 (Bkn B).toNat (kW K (k + 1))).1 0 36 = I (Bkn B) := hM1.1
          rw [B1, Option.bind_some, if_pos m2, mW, mf, Option.bind_some, if_neg (by rw [zn]; decide), hM1.1, if_neg (fun w => h16 ((Ieq (16) (16) (by omega) (by omega) (by omega) (by omega)).mp w)), if_pos i16, xn, Option.bind_some, e1, if_pos i16, xn, Option.bind_some, show (0 : Int32) = I 0 from rfl, D1, Option.bind_some]
          rfl
        rw [cc, mm]
        rcases kp with w | ⟨q, so, k', σ', τ', w0, w1⟩
        · exact Or.inl w
        · exact Or.inr ⟨q, so, k', σ', τ', by omega, w1⟩
    · have z0 : 0 ≤ z := by rcases hz with w | w <;> omega
      have z1 : z < 16 := by rcases hz with w | w <;> omega
      have fg := fltk_go (z := kS K (k + 1)) (c := 3) (frk_v A2) (frl_t B2) (by omega) (by omega)
      have ce : f_X6_readKind F σ = some (seti (seti σ1 1 4 (I 3)) 1 7 (I (kS K (k + 1)))) := by
        unfold f_X6_readKind
        rw [A1, Option.bind_some, if_pos s3, sW, cf, Option.bind_some, if_neg (fun w => zn ((Ieq (-1) (-1) (by omega) (by omega) (by omega) (by omega)).mp w)), show (3 : Int32) = I 3 from rfl, c_refuse A3]
        rfl
      refine ⟨0, Or.inl ⟨_, _, ce, ?_, fg⟩, Or.inl ⟨_, ce, fltk_ne fg⟩⟩
      unfold f_X12_readKind
      rw [B1, Option.bind_some, if_pos m2, mW, mf, Option.bind_some, if_pos ((Ile' (0) (0) (by omega) (by omega) (by omega) (by omega)).mpr z0), mS]
      rfl
  · have n3 : ¬ (σ1.1 9 7 = (3 : Int32)) := fun w => by rw [sT] at w; exact t3 ((Ieq (3) (3) (by omega) (by omega) (by omega) (by omega)).mp w)
    have m2 : ¬ (τ1.1 0 29 = (2 : Int32)) := fun w => by rw [mT] at w; exact t3 (mt.2.1.mp ((Ieq (2) (2) (by omega) (by omega) (by omega) (by omega)).mp w))
    have fg := fltk_go (z := kS K (k + 1)) (frk_v A2) (frl_t B2) (wc_b (kT K (k + 1))).1 (wc_b (kT K (k + 1))).2
    have ce : f_X6_readKind F σ = some (seti (seti σ1 1 4 (I (wc (kT K (k + 1))))) 1 7 (I (kS K (k + 1)))) := by
      unfold f_X6_readKind
      rw [A1, Option.bind_some, if_neg n3, c_wrong hK A3]
      rfl
    refine ⟨0, Or.inl ⟨_, _, ce, ?_, fg⟩, Or.inl ⟨_, ce, fltk_ne fg⟩⟩
    unfold f_X12_readKind
    rw [B1, Option.bind_some, if_neg m2, m_wrong hK B3]
    rfl
end KNE
