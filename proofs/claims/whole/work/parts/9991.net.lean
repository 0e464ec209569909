/-! the end of a net's text -/
def jp8 (F : Nat) : St → Option (Int32 × St) := fun t7 =>
      Option.bind (some (f_X12_isSign (59 : Int32) t7)) fun x9 =>
      if x9 = 0 then (
        Option.bind (f_X12_wrong t7) fun x12 =>
        if x12.1 = 0 ∨ x12.1 = 1 then some (x12.1, x12.2) else none)
      else (
        Option.bind (some (seti t7 (0) 66 (0 : Int32))) fun s14 =>
        Option.bind (f_X12_readNet_L74 F F (1 : Int32) (0 : Int32) s14) fun t32 =>
        Option.bind (some (fun (t33 : St) =>
          Option.bind (f_X12_fail (7 : Int32) (t33.1 (0) 30) t33) fun x35 =>
          if x35.1 = 0 ∨ x35.1 = 1 then some (x35.1, x35.2) else none)) fun jp34 =>
        if (t32.1 = 0) ∨ (¬ ((t32.2.1 (0) 66) ≤ (8 : Int32))) then (
          jp34 t32.2)
        else (
          Option.bind (f_X12_fitAll F t32.2) fun x37 =>
          if x37.1 = 0 then (
            jp34 x37.2)
          else (
            Option.bind (some (seti x37.2 (0) 63 (x37.2.1 (0) 49))) fun s40 =>
            Option.bind (f_X12_readNet_L183 F F (0 : Int32) s40) fun t57 =>
            Option.bind (f_X12_readNet_L258 F F (0 : Int32) t57) fun t73 =>
            Option.bind (f_X12_sheetRings F t73) fun x74 =>
            Option.bind (some (seti x74.2 (0) 68 x74.1)) fun s75 =>
            some ((1 : Int32), s75))))
def FrNc (σ g : St) : Prop := (∀ c, c = 0 ∨ (10 ≤ c ∧ c ≤ 26) ∨ 31 ≤ c → g.1 c = σ.1 c) ∧ (∀ j, j ≠ 2 → j ≠ 3 → j ≠ 4 → j ≠ 7 → g.1 1 j = σ.1 1 j) ∧ g.1 9 6 = σ.1 9 6 ∧ ∀ c, c ≠ 5 → c ≠ 9 → g.2 c = σ.2 c
def FrNm (τ g : St) : Prop := (∀ c, (1 ≤ c ∧ c ≤ 26) ∨ 40 ≤ c → g.1 c = τ.1 c) ∧ (∀ j, (j ≤ 28 ∧ j ≠ 2) ∨ (36 ≤ j ∧ j ≠ 48 ∧ j ≠ 49 ∧ j ≠ 50 ∧ j ≠ 54 ∧ j ≠ 60 ∧ j ≠ 63 ∧ j ≠ 66 ∧ j ≠ 68) → g.1 0 j = τ.1 0 j) ∧ (∀ c, c ≠ 0 → c ≠ 30 → g.2 c = τ.2 c) ∧ ∀ j, j ≠ 32 → g.2 0 j = τ.2 0 j
theorem frnc_tr {a b c : St} (h : FrNc a b) (h' : FrNc b c) : FrNc a c := ⟨fun x q => by rw [h'.1 x q, h.1 x q], fun j p q r s => by rw [h'.2.1 j p q r s, h.2.1 j p q r s], by rw [h'.2.2.1, h.2.2.1], fun x p q => by rw [h'.2.2.2 x p q, h.2.2.2 x p q]⟩
theorem frnm_tr {a b c : St} (h : FrNm a b) (h' : FrNm b c) : FrNm a c := ⟨fun x q => by rw [h'.1 x q, h.1 x q], fun j q => by rw [h'.2.1 j q, h.2.1 j q], fun x p q => by rw [h'.2.2.1 x p q, h.2.2.1 x p q], fun j q => by rw [h'.2.2.2 j q, h.2.2.2 j q]⟩
theorem frnc_d {σ g : St} (h : FrD σ g) : FrNc σ g := ⟨fun c q => h.1 c (by omega), fun j a _ c d => h.2.1 j a c d, h.2.2.1.1, h.2.2.2⟩
theorem frnm_e {τ g : St} (h : FrE τ g) : FrNm τ g := ⟨fun c q => h.1 c (by omega), fun j q => h.2.1 j (by omega), h.2.2.1, h.2.2.2⟩
theorem frnc_i {σ : St} {c j : Nat} {v : Int32} (h : (2 ≤ c ∧ c ≤ 8) ∨ (27 ≤ c ∧ c ≤ 30) ∨ (c = 1 ∧ (j = 2 ∨ j = 3 ∨ j = 4 ∨ j = 7))) : FrNc σ (seti σ c j v) := ⟨fun d a => seti_r (by omega), fun i a b d e => by rw [seti1, if_neg (by omega)], by rw [seti1, if_neg (by omega)], fun _ _ _ => rfl⟩
theorem frnm_i {τ : St} {c j : Nat} {v : Int32} (h : (27 ≤ c ∧ c ≤ 39) ∨ (c = 0 ∧ (j = 2 ∨ j = 35 ∨ j = 48 ∨ j = 49 ∨ j = 50 ∨ j = 54 ∨ j = 60 ∨ j = 63 ∨ j = 66 ∨ j = 68))) : FrNm τ (seti τ c j v) := ⟨fun d a => seti_r (by omega), fun i a => by rw [seti1, if_neg (by omega)], fun _ _ _ => rfl, fun _ _ => rfl⟩
def FltN (σ τ σ' τ' : St) : Prop := FrNc σ σ' ∧ FrNm τ τ' ∧ ∃ c z : Int, 1 ≤ c ∧ c ≤ 7 ∧ σ'.1 1 4 = I c ∧ τ'.1 0 35 = I c ∧ σ'.1 1 7 = I z ∧ τ'.1 0 2 = I z
theorem fltn_go {σ τ g u : St} (h1 : FrNc σ g) (h2 : FrNm τ u) {c z : Int} (c1 : 1 ≤ c) (c7 : c ≤ 7) : FltN σ τ (seti (seti g 1 4 (I c)) 1 7 (I z)) (seti (seti u 0 35 (I c)) 0 2 (I z)) :=
  ⟨frnc_tr h1 (frnc_tr (frnc_i (by omega)) (frnc_i (by omega))), frnm_tr h2 (frnm_tr (frnm_i (by omega)) (frnm_i (by omega))), c, z, c1, c7, by rw [seti1, if_neg (by omega), seti1, if_pos ⟨rfl, rfl⟩], by rw [seti1, if_neg (by omega), seti1, if_pos ⟨rfl, rfl⟩], by rw [seti1, if_pos ⟨rfl, rfl⟩], by rw [seti1, if_pos ⟨rfl, rfl⟩]⟩
def MNet (B : BkT) (Nt : NtT) (c : Int) (τ : St) : Prop := τ.1 0 63 = I c ∧ (0 ≤ c ∧ c ≤ 200) ∧ (∀ a, 0 ≤ a → a < c → 0 ≤ Nk Nt a ∧ τ.1 37 a.toNat = I (Nk Nt a)) ∧ (∀ a, c ≤ a → a < 400 → Nk Nt a = -1) ∧ (∀ x, NLiv B Nt x → 0 ≤ x → τ.1 38 x.toNat = I (Nw Nt x)) ∧ (∀ x, NLiv B Nt x → x < 0 → τ.1 39 (-2 - x).toNat = I (Nw Nt x)) ∧ τ.1 0 66 = I (Ne Nt) ∧ τ.1 0 68 = Nr Nt
def NetE (σ : St) : Prop := (∀ i : Int, 0 ≤ i → i < 400 → σ.1 28 i.toNat = I (-1)) ∧ σ.1 27 3 = I 0 ∧ ∃ t : Int, 0 ≤ t ∧ t ≤ 400 ∧ σ.1 27 6 = I t
theorem cnt_all {p : Int → Bool} : ∀ n : Nat, (∀ i : Int, 0 ≤ i → i < n → p i = true) → cnt p n = n
  | 0, _ => rfl
  | n + 1, h => by
    rw [cnt, cnt_all n (fun i a b => h i a (by omega)), h n (by omega) (by omega), if_pos rfl]
    omega
section NED
variable {n : Int} {ch : Int → Int} {K : TkT} {N : Int} {B : BkT} {σs τs : St} {k : Int} {D : DrT} {σ τ : St} {F : Nat}
theorem nts_n {far : Int → Int} {E : Int} {R : Int32} (h0 : 0 ≤ Dna D) (h2 : Dna D ≤ 200) (hk : ∀ a, 0 ≤ a → a < Dna D → 0 ≤ Dak D a) : Ncn (ntS D far E R) = Dna D := by
  unfold Ncn
  have e : ∀ i : Int, Nk (ntS D far E R) i = if 0 ≤ i ∧ i < Dna D then Dak D i else -1 := fun _ => rfl
  rw [← cnt_top 400 (Dna D).toNat (by omega) (fun i a b => by
    rw [e, if_neg (by omega)]; rfl), cnt_all (Dna D).toNat (fun i a b => by
    rw [e, if_pos ⟨a, by omega⟩]
    exact decide_eq_true (hk i a (by omega)))]
  omega
theorem net_end (E : EnvH F n ch K N B 200 σs τs) (h : Rel n ch K N B 200 σs τs k k D σ τ) (hJ : JG True D (Vx B D) σ τ) (h27 : σ.1 2 7 = I 0) (hE : NetE σ) : (∃ σ' τ', f_X6_endNet F σ = some σ' ∧ jp8 F τ = some (I 0, τ') ∧ FltN σ τ σ' τ') ∨ (∃ Nt c σ' τ', f_X6_endNet F σ = some σ' ∧ jp8 F τ = some (I 1, τ') ∧ kT K k = 59 ∧ AtC K N (k + 1) σ' ∧ AtM n ch K N k τ' ∧ FrNc σ σ' ∧ FrNm τ τ' ∧ σ'.1 1 4 = I 0 ∧ σ'.1 1 3 = σ.1 1 3 ∧ τ'.1 0 48 = τ.1 0 48 ∧ NetV B Nt ∧ NtC B Nt σ' 27 ∧ MNet B Nt c τ') := by
  have hK := E.2.1
  have hV := E.2.2.2.1
  have hF := E.2.2.1
  have n4 := E.1.2.1
  have tN1 := hK.2.1
  obtain ⟨r1, r2, r3, r4, r5, r6, r7, r8, r9⟩ := h
  have k0 := r1.2.1
  have k1 := r1.2.2.1
  have tt := tks_T hK k0 k1
  have tb := tt_b tt.1
  obtain ⟨g, A1, A2⟩ := c_addEnds hF r5 (by omega) r6 h27
  have gfr : FrNc σ g := ⟨fun c q => A2.1 c (by omega) (by omega) (by omega), fun j _ _ _ _ => by rw [A2.1 1 (by omega) (by omega) (by omega)], by rw [A2.1 9 (by omega) (by omega) (by omega)], fun c _ _ => by rw [A2.2.1]⟩
  have atg : AtC K N k g := atc_fr r1 (fun c q => A2.1 c (by omega) (by omega) (by omega)) (fun c q => by rw [A2.2.1])
  have gT : g.1 9 7 = I (kT K k) := atg.2.2.2.2.1
  have e59 := m_sg hK r2 (c := 59) (by decide)
  have mS : ∀ u : St, u.1 0 30 = τ.1 0 30 → (Option.bind (f_X12_fail (7 : Int32) (u.1 (0) 30) u) fun x35 => if x35.1 = 0 ∨ x35.1 = 1 then some (x35.1, x35.2) else none) = some (I 0, seti (seti u 0 35 (I 7)) 0 2 (I (kS K k))) := fun u e => by
    rw [e, r2.2.2.2.2.1]; rfl
  by_cases t59 : kT K k = 59
  · have hk2 := tt.2.1 (by rw [t59]; decide)
    have g59 : g.1 9 7 = (59 : Int32) := by rw [gT, t59]; rfl
    have na0 := r5.1
    have na2 := r5.2.1
    have nn0 := r5.2.2.2.1
    have nn6 := r5.2.2.2.2.1
    have nb := ne1_b (D := D) nn0
    -- the reference's ends
    obtain ⟨u, acc, B1, B2, B3, B4, B5, B6, B7, B8⟩ := m_ends_L (F := F) r5 (by omega) r7 F 0 1 (seti τ 0 66 (I 0)) (by omega) nn0 (by omega) (Or.inr rfl) rfl (fun c x y => seti_r x) (fun j x => by rw [seti1, if_neg (by omega)]) (by rw [seti1, if_pos ⟨rfl, rfl⟩]; rfl) (fun i x y => by omega)
    have B1' : f_X12_readNet_L74 F F (1 : Int32) (0 : Int32) (seti τ 0 66 (0 : Int32)) = some (I acc, u) := B1
    have ufr : FrNm τ u := ⟨fun c q => B5 c (by omega) (by omega), fun j q => B6 j (by omega), fun c _ _ => by rw [B4], fun j _ => by rw [B4]⟩
    have u30 : u.1 0 30 = τ.1 0 30 := B6 30 (by omega)
    have hacc : acc = 1 ↔ Al2 D := B3.trans ⟨fun q i x y => q.2 i x y, fun q => ⟨rfl, fun i x y => q i x y⟩⟩
    -- the class' ends
    have hn3 := c_hasName (F := F) (g := g) (tm := fun m => if m < Dnn D ∧ Dtm D m = 1 ∧ ne1 D m < 8 then 2 else Dtm D m) (a := 3) (b := 4000) hF nn0 nn6 (by rw [A2.2.2.1 6 (by omega)]; exact r6.2.1) (fun m x y => ⟨A2.2.2.2.2.1 m x y, by
      have := r5.2.2.2.2.2 m x y
      show 0 ≤ (if m < Dnn D ∧ Dtm D m = 1 ∧ ne1 D m < 8 then 2 else Dtm D m) ∧ (if m < Dnn D ∧ Dtm D m = 1 ∧ ne1 D m < 8 then 2 else Dtm D m) < 100000
      split <;> omega⟩) (by omega) (by omega) (by omega) (by omega)
    have g27 : g.1 2 7 = I (ne1 D (Dnn D)) := A2.2.2.2.1
    have refu : f_X6_refuse (7 : Int32) g = some (seti (seti g 1 4 (I 7)) 1 7 (I (kS K k))) := c_refuse (c := 7) atg
    by_cases good : Al2 D ∧ ne1 D (Dnn D) ≤ 8
    · have x3 : f_X1_hasNameStanding F (3 : Int32) (4000 : Int32) g = some (I 0) := hn3.2 (fun m x y => by
        have := good.1 m x y
        show ¬ (3 ≤ (if m < Dnn D ∧ Dtm D m = 1 ∧ ne1 D m < 8 then 2 else Dtm D m) ∧ (if m < Dnn D ∧ Dtm D m = 1 ∧ ne1 D m < 8 then 2 else Dtm D m) ≤ 4000)
        split <;> omega)
      obtain ⟨r, Ou, S1, S2, S3, S4, S5⟩ := net_sheet (u := u) hV r5 (Int.le_refl _) good.1 good.2 (hJ trivial good.1) A2 r7 (B5 29 (by omega) (by omega)) (B5 31 (by omega) (by omega)) B8
      obtain ⟨far, hfar⟩ := far_ex S1
      have hOu0 : OuRl B (fun _ => 0) false Ou := fun q => absurd q (by decide)
      have hCH : CH B D Ou r far (fun _ => 0) false g := by
        refine ⟨S1, hOu0, hfar, S2, ?_, ?_, ?_, fun a x y => ?_, ?_, fun q => absurd q (by decide)⟩
        · rw [A2.1 15 (by omega) (by omega) (by omega), A2.1 17 (by omega) (by omega) (by omega), A2.1 18 (by omega) (by omega) (by omega), A2.2.1]
          exact rel_kc E r3
        · rw [A2.2.2.1 5 (by omega)]; exact r6.1
        · rw [A2.2.2.1 6 (by omega)]; exact r6.2.1
        · rw [A2.1 4 (by omega) (by omega) (by omega)]; exact r6.2.2.1 a x y
        · rw [A2.1 1 (by omega) (by omega) (by omega)]; exact r9
      have hMH : MH B D Ou r far (fun _ => 0) false u := by
        refine ⟨S1, hOu0, hfar, S3, ?_, ?_, ?_, fun a x y => ?_, fun q => absurd q (by decide)⟩
        · rw [B6 36 (by omega), B5 18 (by omega) (by omega), B5 19 (by omega) (by omega), B5 20 (by omega) (by omega), B4]
          exact rel_km E r4
        · rw [B6 49 (by omega)]; exact r7.1
        · rw [B6 54 (by omega)]; exact r7.2.2.1
        · rw [B5 27 (by omega) (by omega)]; exact (r7.2.2.2.1 a x y).1
      have hmk0 : MkC D g (fun _ => False) := fun v v0 v1 => ⟨fun q => by rcases q with q | q <;> exact q.elim, fun _ => by rw [A2.1 7 (by omega) (by omega) (by omega)]; exact (r6.2.2.2 v v0 v1).2.2⟩
      obtain ⟨g1, C1, C2⟩ := c_agents hF hCH hmk0
      obtain ⟨u1, ac1, D1, D2, D3, D4, D5⟩ := m_fitAll hF hMH
      have g1fr : FrNc σ g1 := frnc_tr gfr ⟨fun c q => C1.2 c (by omega), fun j _ _ _ _ => by rw [C1.2 1 (by omega)], by rw [C1.2 9 (by omega)], fun c _ _ => by rw [C1.1]⟩
      have u1fr : FrNm τ u1 := frnm_tr ufr ⟨fun c q => D2.2 c (by omega), fun j _ => by rw [D2.2 0 (by omega)], fun c _ _ => by rw [D2.1], fun j _ => by rw [D2.1]⟩
      have at1 : AtC K N k g1 := atc_fr atg (fun c q => C1.2 c (by omega)) (fun c q => by rw [C1.1])
      have a1 := hacc.mpr good.1
      have mpre : ∀ Y, (Option.bind (f_X12_fitAll F u) fun x37 => if x37.1 = 0 then (Option.bind (f_X12_fail (7 : Int32) (x37.2.1 (0) 30) x37.2) fun x35 => if x35.1 = 0 ∨ x35.1 = 1 then some (x35.1, x35.2) else none) else (Option.bind (some (seti x37.2 (0) 63 (x37.2.1 (0) 49))) fun s40 => Option.bind (f_X12_readNet_L183 F F (0 : Int32) s40) fun t57 => Option.bind (f_X12_readNet_L258 F F (0 : Int32) t57) fun t73 => Option.bind (f_X12_sheetRings F t73) fun x74 => Option.bind (some (seti x74.2 (0) 68 x74.1)) fun s75 => some ((1 : Int32), s75))) = Y → jp8 F τ = Y := by
        intro Y hY
        unfold jp8
        rw [show (59 : Int32) = I 59 from rfl, e59, if_pos t59, Option.bind_some, if_neg (show ¬ (I 1 = (0 : Int32)) by decide), Option.bind_some, B1', Option.bind_some, Option.bind_some, if_neg (by
          show ¬ (I acc = 0 ∨ ¬ (u.1 0 66 ≤ (8 : Int32)))
          rw [a1, B7]
          rintro (q | q)
          · exact absurd q (by decide)
          · exact q ((Ile (8) (8) (by omega) (by omega) (by omega) (by omega)).mpr good.2))]
        exact hY
      have cpre : ∀ Y, (Option.bind (f_X6_agentsFit F g) fun x7 => if x7.1 = 0 then (Option.bind (f_X6_refuse (7 : Int32) x7.2) fun s6 => some s6) else (Option.bind (f_X6_storeNet F x7.2) fun s9 => Option.bind (f_X9_advance s9) fun s10 => some s10)) = Y → f_X6_endNet F σ = Y := by
        intro Y hY
        unfold f_X6_endNet
        rw [A1, Option.bind_some, if_pos g59, x3, Option.bind_some, Option.bind_some, if_pos ⟨rfl, by rw [g27]; exact (Ile (8) (8) (by omega) (by omega) (by omega) (by omega)).mpr good.2⟩]
        exact hY
      rcases C2 with ⟨F1, F2, F3⟩ | ⟨F1, F2⟩
      · right
        have ac1e : ac1 = 1 := D4.mpr F1
        -- class stores
        have hCH1 := ch7 hCH C1
        have hMa : ∀ t z, Agv B D t → Pw D r far t z → (fun z => False ∨ ∃ t, Agv B D t ∧ Pw D r far t z) z := fun t z a b => Or.inr ⟨t, a, b⟩
        have c27 : g1.1 27 = σ.1 27 := by rw [C1.2 27 (by omega), A2.1 27 (by omega) (by omega) (by omega)]
        have c28 : g1.1 28 = σ.1 28 := by rw [C1.2 28 (by omega), A2.1 28 (by omega) (by omega) (by omega)]
        obtain ⟨tE, tE0, tE1, tE2⟩ := hE.2.2
        obtain ⟨g2, G1, G2⟩ := c_sn10 hF hCH1 hMa F 0 g1 (by omega) na0 (by omega) ⟨fun _ _ _ _ _ => rfl, rfl, fun _ _ _ => rfl, by rw [c27]; exact hE.2.1, ⟨tE, tE0, tE1, tE0, by rw [c27]; exact tE2⟩, fun i x y => by rw [if_neg (by omega), c28]; exact hE.1 i x y, fun a' p x y => by omega, F3⟩
        obtain ⟨I1, I2, I3, I4, ⟨t, t0, t1, t2, I5⟩, I6, I7, I8⟩ := G2
        have g227 : g2.1 2 7 = I (ne1 D (Dnn D)) := by rw [I1 2 (by omega) (by omega) (by omega) (by omega), C1.2 2 (by omega)]; exact g27
        obtain ⟨g3, eg3⟩ : ∃ g3, g3 = seti g2 27 4 (I (ne1 D (Dnn D))) := ⟨_, rfl⟩
        have fr3 : ∀ c, c ≠ 27 → g3.1 c = g2.1 c := fun c x => by rw [eg3, seti_r x]
        have hCH3 : CH B D Ou r far (fun _ => 0) false g3 := ch_fr hCH1 (fun c q => by rw [fr3 c (by omega), I1 c (by omega) (by omega) (by omega) (by omega)]) (by rw [eg3, seti2, I2])
        have ouS : ∀ e, 0 ≤ e → e < ne1 D (Dnn D) → Ou (slv e) := fun e x y => (S4 _).mpr (by
          have sb := slv_b x (show e < 8 by omega)
          exact ⟨sb.1, sb.2.1, by omega, by omega⟩)
        obtain ⟨g4, H1, H2, H3, H4, H5⟩ := c_sn111 hF hCH3 good.2 ouS (by rw [fr3 2 (by omega)]; exact g227) F 0 (fun z => False ∨ ∃ t, Agv B D t ∧ Pw D r far t z) g3 (by omega) nb.1 (by omega) rfl (fun _ _ _ => rfl) (fun v v0 v1 => by rw [fr3 7 (by omega)]; exact I8 v v0 v1) (fun j x y => by omega)
        have hPth : ∀ z, ((False ∨ ∃ t, Agv B D t ∧ Pw D r far t z) ∨ ∃ j, (0 ≤ j ∧ j < ne1 D (Dnn D)) ∧ Pw D r far (slv j) z) ↔ (Pth B D Ou r far z ∨ False) := fun z => by
          constructor
          · rintro ((q | ⟨t, q, w⟩) | ⟨j, q, w⟩)
            · exact q.elim
            · exact Or.inl ⟨t, Or.inl q, w⟩
            · exact Or.inl ⟨slv j, Or.inr (ouS j q.1 q.2), w⟩
          · rintro (⟨t, q | q, w⟩ | q)
            · exact Or.inl (Or.inr ⟨t, q, w⟩)
            · have os := ou_slv S1 q
              have := (S4 t).mp q
              exact Or.inr ⟨pt t - 1720, by omega, by rw [os.1]; exact w⟩
            · exact q.elim
        have hCH4 : CH B D Ou r far (fun _ => 0) false g4 := ch_fr hCH3 (fun c q => H3 c (by omega) (by omega)) (by rw [H2])
        obtain ⟨g5, J1, J2⟩ := c_rings hF hCH4 F (Dnn D).toNat 0 0 (fun _ => False) g4 (by omega) (by omega) (by omega) ⟨rfl, fun _ _ => rfl⟩ (fun a _ q => q.elim) (mkc_iff H4 (fun v _ _ => by
          unfold NmM
          exact or_congr (hPth _) (hPth _)))
        obtain ⟨R, eR⟩ : ∃ R, R = rgN r tw (Usd B D Ou r far) (Dnn D).toNat 0 (fun _ => False) := ⟨_, rfl⟩
        rw [← eR] at J1
        obtain ⟨g6, eg6⟩ : ∃ g6, g6 = seti g5 27 5 (I (0 + R)) := ⟨_, rfl⟩
        have fr6 : ∀ c, c ≠ 7 → c ≠ 27 → c ≠ 28 → c ≠ 29 → c ≠ 30 → g6.1 c = g1.1 c := fun c a b d e f => by rw [eg6, seti_r b, J2.2 c a, H3 c a f, fr3 c b, I1 c a b d e]
        have fr62 : g6.2 = g1.2 := by rw [eg6, seti2, J2.1, H2, eg3, seti2, I2]
        have stN : f_X6_storeNet F g1 = some g6 := by
          unfold f_X6_storeNet f_X1_countRings
          rw [show f_X6_storeNet_L10 F F (0 : Int32) g1 = _ from G1, Option.bind_some, g227, Option.bind_some, ← eg3, show f_X6_storeNet_L111 F F (0 : Int32) g3 = _ from H1, Option.bind_some, show f_X1_countRings_L4 F F (0 : Int32) (0 : Int32) g4 = _ from J1, Option.bind_some, Option.bind_some, Option.bind_some, eg6]
        have at6 : AtC K N k g6 := atc_fr at1 (fun c q => fr6 c (by omega) (by omega) (by omega) (by omega) (by omega)) (fun c q => by rw [fr62])
        obtain ⟨g7, K1, K2, K3⟩ := c_adv at6.1 hK.1 (by omega) (by omega) at6.2.2.1 at6.2.2.2.1
        rw [hk2.1] at K3
        -- the reference stores
        have hMH1 := mh35 hMH D2
        have u149 : u1.1 0 49 = I (Dna D) := hMH1.2.2.2.2.2.1
        obtain ⟨u2, eu2⟩ : ∃ u2, u2 = seti u1 0 63 (I (Dna D)) := ⟨_, rfl⟩
        have u2c : ∀ c, c ≠ 0 → u2.1 c = u1.1 c := fun c x => by rw [eu2, seti_r x]
        have u20 : ∀ j, j ≠ 63 → u2.1 0 j = u1.1 0 j := fun j x => by rw [eu2, seti1, if_neg (by omega)]
        have hMH2 : MH B D Ou r far (fun _ => 0) false u2 := by
          obtain ⟨q1, q2, q3, q4, q5, q6, q7, q8, q9⟩ := hMH1
          refine ⟨q1, q2, q3, mj_fr q4 (fun c q => u2c c (by omega)), ?_, ?_, ?_, fun a x y => ?_, fun q => absurd q (by decide)⟩
          · rw [u20 36 (by omega), u2c 18 (by omega), u2c 19 (by omega), u2c 20 (by omega), eu2]; exact q5
          · rw [u20 49 (by omega)]; exact q6
          · rw [u20 54 (by omega)]; exact q7
          · rw [u2c 27 (by omega)]; exact q8 a x y
        have hMm : ∀ t z, Agv B D t → Pw D r far t z → (fun z => ∃ t, Agv B D t ∧ Pw D r far t z) z := fun t z a b => ⟨t, a, b⟩
        obtain ⟨u3, L1, L2, L3, L4, L5, L6⟩ := m_sn183 hF hMH2 hMm F 0 u2 (by omega) na0 (by omega) rfl (fun _ _ _ _ => rfl) (fun v v0 v1 => by rw [u2c 35 (by omega)]; exact D5 v v0 v1) (fun i x y => by omega) (fun t q w => by have := q.1; omega)
        have hMH3 : MH B D Ou r far (fun _ => 0) false u3 := mh_fr hMH2 (fun c q => L3 c (by omega) (by omega) (by omega)) (by rw [L2])
        have u336 : ∀ i, 0 ≤ i → i < Dnn D → u3.1 36 i.toNat = I (ne1 D i) := fun i x y => by
          rw [L3 36 (by omega) (by omega) (by omega), u2c 36 (by omega), D2.2 36 (by omega)]; exact B8 i x y
        obtain ⟨u4, M1, M2, M3, M4, M5⟩ := m_sn258 hF hMH3 good.2 u336 (fun m x y z => ⟨ouS _ (ne1_b x).1 (ne1_lt x y z), S5 m x y z⟩) F 0 (fun z => ∃ t, Agv B D t ∧ Pw D r far t z) u3 (by omega) nn0 (by omega) rfl (fun _ _ _ => rfl) L4 (fun i x y => by omega)
        have hMH4 : MH B D Ou r far (fun _ => 0) false u4 := mh_fr hMH3 (fun c q => M3 c (by omega) (by omega)) (by rw [M2])
        have hPm : ∀ z, ((∃ t, Agv B D t ∧ Pw D r far t z) ∨ ∃ i, (0 ≤ i ∧ i < Dnn D ∧ Dtm D i = 1) ∧ Pw D r far (slv (ne1 D i)) z) ↔ (Pth B D Ou r far z ∨ False) := fun z => by
          constructor
          · rintro (⟨t, q, w⟩ | ⟨i, q, w⟩)
            · exact Or.inl ⟨t, Or.inl q, w⟩
            · exact Or.inl ⟨_, Or.inr (ouS _ (ne1_b q.1).1 (ne1_lt q.1 q.2.1 q.2.2)), w⟩
          · rintro (⟨t, q | q, w⟩ | q)
            · exact Or.inl ⟨t, q, w⟩
            · have os := ou_slv S1 q
              have hb := (S4 t).mp q
              obtain ⟨i, ia, ib, ic, id'⟩ := ne1_ex (D := D) (Dnn D).toNat (pt t - 1720) os.2.1 (by rw [show (((Dnn D).toNat : Nat) : Int) = Dnn D by omega]; exact hb.2.2.2)
              refine Or.inr ⟨i, ⟨by omega, by omega, ic⟩, ?_⟩
              rw [id', os.1]; exact w
            · exact q.elim
        obtain ⟨u5, N1, N2⟩ := m_rings hF hMH4 (Dnn D).toNat F 0 0 (fun _ => False) u4 (by omega) (by omega) (by omega) ⟨rfl, fun _ _ => rfl⟩ (fun a _ q => q.elim) (mkm_iff M4 (fun z _ _ => hPm z))
        rw [← eR] at N1
        have N1' : f_X12_sheetRings_L6 F F (0 : Int32) (1000 : Int32) u4 = some (I (0 + R), u5) := N1
        have ref : jp8 F τ = some (I 1, seti u5 0 68 (I (0 + R))) := by
          apply mpre
          unfold f_X12_sheetRings
          rw [D1, Option.bind_some, if_neg (show ¬ (I ac1 = (0 : Int32)) by rw [ac1e]; decide), show u1.1 0 49 = _ from u149, Option.bind_some, ← eu2, show f_X12_readNet_L183 F F (0 : Int32) u2 = _ from L1, Option.bind_some, show f_X12_readNet_L258 F F (0 : Int32) u3 = _ from M1, Option.bind_some, N1', Option.bind_some, Option.bind_some, Option.bind_some]
          rfl
        have cls : f_X6_endNet F σ = some g7 := by
          apply cpre
          rw [F2, Option.bind_some, if_neg (show ¬ (I 1 = (0 : Int32)) by decide), stN, Option.bind_some, K1]
          rfl
        -- frames of the reference
        have fu5 : ∀ c, c ≠ 0 → c ≠ 35 → c ≠ 37 → c ≠ 38 → c ≠ 39 → u5.1 c = u1.1 c := fun c a b d e f => by rw [N2.2 c b, M3 c b f, L3 c b d e, u2c c a]
        have fu50 : ∀ j, j ≠ 63 → u5.1 0 j = u1.1 0 j := fun j x => by rw [N2.2 0 (by omega), M3 0 (by omega) (by omega), L3 0 (by omega) (by omega) (by omega), u20 j x]
        have fu52 : u5.2 = u1.2 := by rw [N2.1, M2, L2, eu2]; rfl
        refine ⟨ntS D far (ne1 D (Dnn D)) (I (0 + R)), Dna D, g7, seti u5 0 68 (I (0 + R)), cls, ref, t59, K3, ?_, ?_, ?_, ?_, ?_, ?_, nts_v S1 hfar nb.1 good.2 S4 _, ?_, ?_⟩
        · refine atm_fr r2 ?_ (fun j q => ?_) ?_
          · rw [seti_r (by omega), fu5 1 (by omega) (by omega) (by omega) (by omega) (by omega), D2.2 1 (by omega), B5 1 (by omega) (by omega)]
          · rw [seti1, if_neg (by omega), fu50 j (by omega), D2.2 0 (by omega), B6 j (by omega)]
          · rw [seti2, fu52, D2.1, B4]
        · refine frnc_tr g1fr (frnc_tr (b := g6) ⟨fun c q => fr6 c (by omega) (by omega) (by omega) (by omega) (by omega), fun j _ _ _ _ => by rw [fr6 1 (by omega) (by omega) (by omega) (by omega) (by omega)], by rw [fr6 9 (by omega) (by omega) (by omega) (by omega) (by omega)], fun c _ _ => by rw [fr62]⟩ (frnc_d (frd_v K2)))
        · refine frnm_tr u1fr (frnm_tr (b := u5) ⟨fun c q => fu5 c (by omega) (by omega) (by omega) (by omega) (by omega), fun j q => fu50 j (by omega), fun c _ _ => by rw [fu52], fun j _ => by rw [fu52]⟩ (frnm_i (by omega)))
        · rw [K2.1 1 (by omega), fr6 1 (by omega) (by omega) (by omega) (by omega) (by omega), C1.2 1 (by omega), A2.1 1 (by omega) (by omega) (by omega)]; exact r8
        · rw [K2.1 1 (by omega), fr6 1 (by omega) (by omega) (by omega) (by omega) (by omega), C1.2 1 (by omega), A2.1 1 (by omega) (by omega) (by omega)]
        · rw [seti1, if_neg (by omega), fu50 48 (by omega), D2.2 0 (by omega), B6 48 (by omega)]
        · have c27' : ∀ j, j ≠ 5 → g7.1 27 j = g3.1 27 j := fun j x => by rw [K2.1 27 (by omega), eg6, seti1, if_neg (by omega), J2.2 27 (by omega), H3 27 (by omega) (by omega)]
          have c28' : g7.1 28 = g2.1 28 := by rw [K2.1 28 (by omega), eg6, seti_r (by omega), J2.2 28 (by omega), H3 28 (by omega) (by omega), fr3 28 (by omega)]
          have c29' : g7.1 29 = g2.1 29 := by rw [K2.1 29 (by omega), eg6, seti_r (by omega), J2.2 29 (by omega), H3 29 (by omega) (by omega), fr3 29 (by omega)]
          have c30' : g7.1 30 = g4.1 30 := by rw [K2.1 30 (by omega), eg6, seti_r (by omega), J2.2 30 (by omega)]
          refine ⟨fun i x y => ?_, fun x hx x0 => ?_, fun x hx x0 => ?_, ?_, ?_, ?_, t, t0, t1, ?_, fun i x y => ?_⟩
          · rw [show 27 + 1 = 28 from rfl, c28', I6 i x y]
            show I (if i < Dna D then Dak D i else -1) = I (if 0 ≤ i ∧ i < Dna D then Dak D i else -1)
            by_cases e : i < Dna D
            · rw [if_pos e, if_pos ⟨x, e⟩]
            · rw [if_neg e, if_neg (fun q => e q.2)]
          · have hl := (nts_liv (far := far) S1 (E := ne1 D (Dnn D)) (I (0 + R)) x).mp hx
            have ag : Agv B D x := by
              rcases hl with q | q
              · omega
              · exact q
            rw [show 27 + 2 = 29 from rfl, c29', I7 (x / 5) (x % 5) (by omega) ag.2.2.1 (by omega) ag.2.2.2, show 5 * (x / 5) + x % 5 = x by omega]
            have fd := hfar x (Or.inl ag) (ag_n ag)
            show I (fcd (far x)) = I (to8 (frf false (far (if x < 0 then slv (-2 - x) else x))))
            rw [if_neg (by omega), fcd_b S1 fd.2.1 fd.2.2.1]
          · have hl := (nts_liv (far := far) S1 (E := ne1 D (Dnn D)) (I (0 + R)) x).mp hx
            have hx2 : x ≤ -2 ∧ -2 - x < ne1 D (Dnn D) := by
              rcases hl with q | q
              · exact q
              · have := q.1; omega
            rw [show 27 + 3 = 30 from rfl, c30', H5 (-2 - x) (by omega) hx2.2]
            have ho := ouS (-2 - x) (by omega) hx2.2
            have fd := hfar _ (Or.inr (Or.inr ho)) (ou_n S1 ho)
            show I (fcd (far (slv (-2 - x)))) = I (to8 (frf false (far (if x < 0 then slv (-2 - x) else x))))
            rw [if_pos x0, fcd_b S1 fd.2.1 fd.2.2.1]
          · rw [c27' 3 (by omega), eg3, seti1, if_neg (by omega), I4, nts_n na0 na2 (fun a x y => (r5.2.2.1 a x y).1)]
          · rw [c27' 4 (by omega), eg3, seti1, if_pos ⟨rfl, rfl⟩]; rfl
          · rw [K2.1 27 (by omega), eg6, seti1, if_pos ⟨rfl, rfl⟩]; rfl
          · rw [c27' 6 (by omega), eg3, seti1, if_neg (by omega)]; exact I5
          · show (if 0 ≤ i ∧ i < Dna D then Dak D i else -1) = -1
            rw [if_neg (by omega)]
        · refine ⟨?_, ⟨na0, na2⟩, fun a x y => ?_, fun a x y => ?_, fun x hx x0 => ?_, fun x hx x0 => ?_, ?_, ?_⟩
          · rw [seti1, if_neg (by omega), N2.2 0 (by omega), M3 0 (by omega) (by omega), L3 0 (by omega) (by omega) (by omega), eu2, seti1, if_pos ⟨rfl, rfl⟩]
          · have e : Nk (ntS D far (ne1 D (Dnn D)) (I (0 + R))) a = Dak D a := if_pos ⟨x, y⟩
            rw [e, seti_r (by omega), N2.2 37 (by omega), M3 37 (by omega) (by omega)]
            exact ⟨(r5.2.2.1 a x y).1, L5 a x y⟩
          · show (if 0 ≤ a ∧ a < Dna D then Dak D a else -1) = -1
            rw [if_neg (by omega)]
          · have hl := (nts_liv (far := far) S1 (E := ne1 D (Dnn D)) (I (0 + R)) x).mp hx
            have ag : Agv B D x := by
              rcases hl with q | q
              · omega
              · exact q
            rw [seti_r (by omega), N2.2 38 (by omega), M3 38 (by omega) (by omega), L6 x ag]
            show _ = I (frf false (far (if x < 0 then slv (-2 - x) else x)))
            rw [if_neg (by omega)]
          · have hl := (nts_liv (far := far) S1 (E := ne1 D (Dnn D)) (I (0 + R)) x).mp hx
            have hx2 : x ≤ -2 ∧ -2 - x < ne1 D (Dnn D) := by
              rcases hl with q | q
              · exact q
              · have := q.1; omega
            obtain ⟨i, ia, ib, ic, id'⟩ := ne1_ex (D := D) (Dnn D).toNat (-2 - x) (by omega) (by rw [show (((Dnn D).toNat : Nat) : Int) = Dnn D by omega]; exact hx2.2)
            have := M5 i (by omega) (by omega) ic
            rw [id'] at this
            rw [seti_r (by omega), N2.2 39 (by omega), this]
            show _ = I (frf false (far (if x < 0 then slv (-2 - x) else x)))
            rw [if_pos x0]
          · rw [seti1, if_neg (by omega), fu50 66 (by omega), D2.2 0 (by omega), B7]; rfl
          · rw [seti1, if_pos ⟨rfl, rfl⟩]; rfl
      · left
        have ac0 : ac1 = 0 := by
          rcases D3 with q | q
          · exact q
          · exact absurd (D4.mp q) F1
        refine ⟨_, _, ?_, ?_, fltn_go (z := kS K k) (c := 7) g1fr u1fr (by omega) (by omega)⟩
        · apply cpre
          rw [F2, Option.bind_some, if_pos (show I 0 = (0 : Int32) from rfl), show f_X6_refuse (7 : Int32) (I 0, g1).2 = _ from c_refuse (c := 7) at1]
          rfl
        · apply mpre
          rw [D1, Option.bind_some, if_pos (show I ac1 = (0 : Int32) by rw [ac0]; rfl)]
          exact mS u1 (by rw [D2.2 0 (by omega)]; exact u30)
    · left
      refine ⟨_, _, ?_, ?_, fltn_go (z := kS K k) (c := 7) gfr ufr (by omega) (by omega)⟩
      · unfold f_X6_endNet
        rw [A1, Option.bind_some, if_pos g59]
        by_cases a2 : Al2 D
        · have x3 : f_X1_hasNameStanding F (3 : Int32) (4000 : Int32) g = some (I 0) := hn3.2 (fun m x y => by
            have := a2 m x y
            show ¬ (3 ≤ (if m < Dnn D ∧ Dtm D m = 1 ∧ ne1 D m < 8 then 2 else Dtm D m) ∧ (if m < Dnn D ∧ Dtm D m = 1 ∧ ne1 D m < 8 then 2 else Dtm D m) ≤ 4000)
            split <;> omega)
          rw [x3, Option.bind_some, Option.bind_some, if_neg (by
            rintro ⟨_, q⟩
            rw [g27] at q
            exact good ⟨a2, (Ile (8) (8) (by omega) (by omega) (by omega) (by omega)).mp q⟩)]
          show Option.bind (f_X6_refuse (7 : Int32) g) _ = _
          rw [refu]; rfl
        · have x3 : f_X1_hasNameStanding F (3 : Int32) (4000 : Int32) g = some (I 1) := hn3.1 (by
            have : ∃ m, 0 ≤ m ∧ m < Dnn D ∧ ¬ (Dtm D m ≤ 2) := by
              by_cases q : ∃ m, 0 ≤ m ∧ m < Dnn D ∧ ¬ (Dtm D m ≤ 2)
              · exact q
              · exfalso
                apply a2
                intro m x y
                by_cases w : Dtm D m ≤ 2
                · exact w
                · exact absurd ⟨m, x, y, w⟩ q
            obtain ⟨m, x, y, z⟩ := this
            have := r5.2.2.2.2.2 m x y
            refine ⟨m, x, y, ?_⟩
            show 3 ≤ (if m < Dnn D ∧ Dtm D m = 1 ∧ ne1 D m < 8 then 2 else Dtm D m) ∧ (if m < Dnn D ∧ Dtm D m = 1 ∧ ne1 D m < 8 then 2 else Dtm D m) ≤ 4000
            rw [if_neg (by omega)]
            omega)
          rw [x3, Option.bind_some, Option.bind_some, if_neg (fun q => absurd q.1 (by decide))]
          show Option.bind (f_X6_refuse (7 : Int32) g) _ = _
          rw [refu]; rfl
      · unfold jp8
        rw [show (59 : Int32) = I 59 from rfl, e59, if_pos t59, Option.bind_some, if_neg (show ¬ (I 1 = (0 : Int32)) by decide), Option.bind_some, B1', Option.bind_some, Option.bind_some, if_pos (by
          show I acc = 0 ∨ ¬ (u.1 0 66 ≤ (8 : Int32))
          rcases B2 with q | q
          · left; rw [q]; rfl
          · right
            rw [B7]
            intro w
            exact good ⟨hacc.mp q, (Ile (8) (8) (by omega) (by omega) (by omega) (by omega)).mp w⟩)]
        exact mS u u30
  · left
    have fg := fltn_go (z := kS K k) gfr (frnm_e (fre_rfl τ)) (wc_b (kT K k)).1 (wc_b (kT K k)).2
    refine ⟨_, _, ?_, ?_, fg⟩
    · unfold f_X6_endNet
      rw [A1, Option.bind_some, if_neg (fun q => by rw [gT] at q; exact t59 ((Ieq (59) (59) (by omega) (by omega) (by omega) (by omega)).mp q)), c_wrong hK atg]
      rfl
    · unfold jp8
      rw [show (59 : Int32) = I 59 from rfl, e59, if_neg t59, Option.bind_some, if_pos (show I 0 = (0 : Int32) from rfl), m_wrong hK r2]
      rfl
end NED
