/-! a step in both, but for what is counted -/
section REW
variable {B : BkT} {N : NtT} {f s r : Int} {σ τ : St} {F : Nat}
theorem s_rew (h : SH B N f s r) (hF : 10000 ≤ F) (hBC : BkC B σ 64) (hNC : NtC B N σ 77) (hBM : BkM B τ) (hNM : NtM B N τ) (hroom : Ncn N - 2 + Bra B r ≤ 400) : ∃ s9 s10 s11 s12 s13 s14 s15 s16 s17 c t1 t42 t62 t88 t112 N',
    (f_X7_passAll F σ = some s9 ∧ f_X7_noteOutside F (I f) (I s) (0 : Int32) s9 = some s10 ∧ f_X7_noteOutside F (I s) (I f) (4 : Int32) s10 = some s11 ∧ f_X4_remove F (I f) s11 = some s12 ∧ f_X4_remove F (I s) s12 = some s13 ∧ f_X7_putAgents F (I r) s13 = some s14 ∧ f_X7_wireAgents F (I r) s14 = some s15 ∧ f_X7_wireOuter F (I r) s15 = some s16 ∧ f_X8_ringsIn (I r) s16 = some (Brr B r) ∧ f_X7_countRings F (I r) s16 = some (c, s17)) ∧
    (f_X12_findOuter F (I f) (I s) τ = some t1 ∧ f_X12_doStep_L184 F (I r) (I (Bpt B (Nk N f))) (I (Bpt B (Nk N s))) F (0 : Int32) (seti (seti t1 12 f.toNat (-1 : Int32)) 12 s.toNat (-1 : Int32)) = some t42 ∧ f_X12_doStep_L251 F (I r) (I (Bpt B (Nk N f))) (I (Bpt B (Nk N s))) F (0 : Int32) t42 = some t62 ∧ f_X12_doStep_L379 F (I r) (I (Bpt B (Nk N f))) (I (Bpt B (Nk N s))) F (0 : Int32) t62 = some t88 ∧ f_X12_doStep_L524 F (I r) (I (Bpt B (Nk N f))) (I (Bpt B (Nk N s))) F (0 : Int32) (seti t88 0 19 (t88.1 0 19 + t88.1 11 r.toNat)) = some t112) ∧
    NetV B N' ∧ NtC B N' (seti s17 77 5 (s16.1 77 5 + (Brr B r + c))) 77 ∧ NtM B N' t112 ∧ Ncn N' = Ncn N - 2 + Bra B r ∧
    (s17.2 = σ.2 ∧ ∀ k, k ≠ 32 → k ≠ 33 → k ≠ 34 → k ≠ 35 → k ≠ 77 → k ≠ 78 → k ≠ 79 → k ≠ 80 → s17.1 k = σ.1 k) ∧
    (t112.2 = τ.2 ∧ (∀ k, k ≠ 0 → k ≠ 12 → k ≠ 13 → k ≠ 14 → k ≠ 40 → k ≠ 41 → k ≠ 42 → t112.1 k = τ.1 k) ∧ ∀ j, j ≠ 19 → t112.1 0 j = τ.1 0 j) ∧
    (t1.2 = τ.2 ∧ ∀ k, k ≠ 40 → k ≠ 41 → t1.1 k = τ.1 k) ∧
    ∀ m, 0 ≤ m → m < 400 → m ≠ f → m ≠ s → 0 ≤ Nk N m → Nk N' m = Nk N m ∧ (Nw N (5 * m) / 5 ≠ f → Nw N (5 * m) / 5 ≠ s → Nw N' (5 * m) = Nw N (5 * m)) := by
  have hK := h.1.1
  have hRu := h.1.2.1
  have hV := h.1.2.2
  have hr0 := h.2.2.2.2.1
  have hr1 := h.2.2.2.2.2.1
  have hrn := hRu.2.1
  have hra := hRu.2.2.2.1 r hr0 hr1
  obtain ⟨f0, f1, sz0, sz1, hfs, kf, ks⟩ := id h.2.1
  have hb16 := b16 hK hV
  -- the class notes what lies outside
  obtain ⟨s9, s10, s11, a1, a2, a3, a4, a5, a6⟩ := c_outs h hF hBC hNC
  have hAg : AgC (Nk N) (Ncn N) s11 := by
    obtain ⟨n1, n2, n3, n4, n5, n6, t, t0, t1, t2, t3⟩ := hNC
    refine ⟨fun n a b => by rw [a4.2 78 (by omega) (by omega) (by omega)]; exact n1 n a b, by rw [a4.2 77 (by omega) (by omega) (by omega)]; exact n4, t, t0, t1, by rw [a4.2 77 (by omega) (by omega) (by omega)]; exact t2, t3⟩
  obtain ⟨s12, b1, b2, b3⟩ := c_remove (F := F) hb16 hF hAg f0 f1 kf
  have hb1 : ∀ n, 0 ≤ n → n < 400 → -1 ≤ upd1 (Nk N) f (-1) n ∧ upd1 (Nk N) f (-1) n < 16 := fun n a b => by
    unfold upd1
    split
    · omega
    · exact hb16 n a b
  have ks1 : 0 ≤ upd1 (Nk N) f (-1) s := by
    unfold upd1
    rw [if_neg (fun q => hfs q.symm)]; exact ks
  obtain ⟨s13, c1, c2, c3⟩ := c_remove (F := F) hb1 hF b3 sz0 sz1 ks1
  -- the reference likewise
  obtain ⟨t1, d1, d2, d3, d4, d5⟩ := m_outs (F := F) h hF hBM hNM
  have hc1 : cnt (fun x => decide (0 ≤ upd1 (upd1 (Nk N) f (-1)) s (-1) x)) 400 = Ncn N - 2 := by
    rw [cnt_dn sz0 sz1 ks1, cnt_dn f0 f1 kf]
    show Ncn N - 1 - 1 = _
    omega
  have hb2 : ∀ n, 0 ≤ n → n < 400 → -1 ≤ upd1 (upd1 (Nk N) f (-1)) s (-1) n ∧ upd1 (upd1 (Nk N) f (-1)) s (-1) n < 16 := fun n a b => by
    have := hb1 n a b
    unfold upd1 at this ⊢
    split
    · omega
    · exact this
  have hK0 : ∀ n, upd1 (upd1 (Nk N) f (-1)) s (-1) n = if n = s then -1 else if n = f then -1 else Nk N n := fun n => rfl
  have fr13 : FrA s11 s13 := fra_tr b2 c2
  have hB13 : BkC B s13 64 := bkc_fr hBC (fun k _ _ => by rw [fr13.2.1 k (by omega) (by omega), a4.2 k (by omega) (by omega) (by omega)]) (by rw [fr13.1, a4.1])
  have hBt : BkM B (seti (seti t1 12 f.toNat (-1 : Int32)) 12 s.toNat (-1 : Int32)) := bkm_fr hBM (fun k _ _ => by rw [seti_r (by omega), seti_r (by omega), d3 k (by omega) (by omega)]) (fun j _ => by rw [seti_r (by omega), seti_r (by omega), d3 0 (by omega) (by omega)]) (by rw [seti2, seti2, d2])
  obtain ⟨K', na, s14, t42, e1, e2, e3⟩ := s_put_L (F := F) (σ0 := s13) (τ0 := seti (seti t1 12 f.toNat (-1 : Int32)) 12 s.toNat (-1 : Int32)) (K0 := upd1 (upd1 (Nk N) f (-1)) s (-1)) (z := Ncn N - 2) hK hRu hr0 hr1 hF hB13 hBt hroom (I (Bpt B (Nk N f))) (I (Bpt B (Nk N s))) (fun g hg => c_agentsIn h hg) (fun g i hg i0 i1 => c_agentKind h hg i0 i1) F 0 0 (upd1 (upd1 (Nk N) f (-1)) s (-1)) (fun _ => 0) s13 (seti (seti t1 12 f.toNat (-1 : Int32)) 12 s.toNat (-1 : Int32)) (by omega) hra.1 (by omega) (by omega) (fun m a b => by omega) ⟨⟨⟨rfl, fun _ _ _ _ => rfl, fun _ _ _ => rfl⟩, rfl, fun _ _ _ => rfl⟩, by
      rw [Int.add_zero, show Ncn N - 2 = Ncn N - 1 - 1 by omega]; exact c3, fun n a b => by
      rw [seti1, hK0]
      by_cases es : n = s
      · rw [if_pos (by rw [es]; exact ⟨rfl, rfl⟩), if_pos es]; rfl
      · rw [if_neg (by omega), if_neg es, seti1]
        by_cases ef : n = f
        · rw [if_pos (by rw [ef]; exact ⟨rfl, rfl⟩), if_pos ef]; rfl
        · rw [if_neg (by omega), if_neg ef, d3 12 (by omega) (by omega)]
          exact hNM.1 n a b, fun j a b => by omega, fun j a b => by omega, fun j l a b c => by omega, fun n _ _ _ => rfl, by rw [hc1, Int.add_zero], hb2⟩
  obtain ⟨⟨pC, pM⟩, pA, pK, pN, pNa, pI, pO, pCnt, pB⟩ := e3
  have hna : NaH B N f s r na := by
    refine ⟨fun i i0 i1 => ?_, pI⟩
    have := pNa i i0 i1
    refine ⟨this.1, this.2.1, ?_⟩
    have h2 := this.2.2.1
    rw [hK0] at h2
    by_cases q1 : na i = s
    · exact Or.inr (Or.inr q1)
    · by_cases q2 : na i = f
      · exact Or.inr (Or.inl q2)
      · rw [if_neg q1, if_neg q2] at h2
        left; omega
  have hkn : KnH B N f s r na K' := by
    refine ⟨fun i i0 i1 => (pNa i i0 i1).2.2.2, fun n n0 n1 nf ns nk => ?_, fun n n0 n1 hn hc => ?_⟩
    · rw [pO n n0 n1 (fun j j0 j1 e => by
        have := (pNa j j0 j1).2.2.1
        rw [← e, hK0, if_neg ns, if_neg nf] at this
        omega), hK0, if_neg ns, if_neg nf]
    · rw [pO n n0 n1 hn, hK0]
      by_cases q1 : n = s
      · rw [if_pos q1]
      · by_cases q2 : n = f
        · rw [if_neg q1, if_pos q2]
        · rw [if_neg q1, if_neg q2]
          have := hV.2.2.1 n n0 n1
          rcases hc with q | q | q
          · exact absurd q q2
          · exact absurd q q1
          · omega
  -- the rest is wires; any number of rings will do for the net
  have hVn : ∀ g : Int32, NetV B (K', nw' B N f s r na, Ne N, g) := fun g => st_net h hna hkn g
  have r14 : ∀ k, k ≠ 32 → k ≠ 33 → k ≠ 34 → k ≠ 35 → k ≠ 77 → k ≠ 78 → s14.1 k = σ.1 k := fun k x1 x2 x3 x4 x5 x6 => by rw [pC.2.1 k x5 x6 x4, fr13.2.1 k x5 x6, a4.2 k x1 x2 x3]
  have r14' : ∀ k, k ≠ 77 → k ≠ 78 → k ≠ 35 → s14.1 k = s11.1 k := fun k x1 x2 x3 => by rw [pC.2.1 k x1 x2 x3, fr13.2.1 k x1 x2]
  have hB14 : BkC B s14 64 := bkc_fr hBC (fun k _ _ => r14 k (by omega) (by omega) (by omega) (by omega) (by omega) (by omega)) (by rw [pC.1, fr13.1, a4.1])
  have hO14 : OutC B N f s r s14 := fun t x y => by rw [r14' 32 (by omega) (by omega) (by omega), r14' 33 (by omega) (by omega) (by omega)]; exact a5 t x y
  have hN14 : NumC B r na s14 := fun i i0 i1 => (pN i i0 i1).1
  have hP14 : PsC B r s14 (Mkd B N f s r (PrtA 0)) := by
    have : PsC B r s14 (fun _ => False) := by
      unfold PsC at a6 ⊢
      rw [r14' 34 (by omega) (by omega) (by omega)]; exact a6
    refine psc_iff this (fun z _ _ => ⟨fun q => absurd q id, ?_⟩)
    rintro ⟨t, k, y, q1, q2, _⟩
    have := rl_r h q2.1
    unfold PrtA at q1
    omega
  have old : ∀ x, NLiv B (K', nw' B N f s r na, Ne N, Nr N) x → ((∀ t, Tm B N f s r t → Et N f s na t ≠ x) ∨ PrtD B N f s r na (PrtA 0) x) → NLiv B N x ∧ nw' B N f s r na x = Nw N x := by
    intro x hx hd
    have hE : ∀ t, Tm B N f s r t → Et N f s na t ≠ x := by
      rcases hd with q | ⟨t, k, y, q1, q2, _⟩
      · exact q
      · have := rl_r h q2.1
        unfold PrtA at q1
        omega
    refine ⟨?_, nw_o h hE⟩
    rcases hx with q | ⟨q0, q1, q2, q3⟩
    · exact Or.inl q
    · have q2' : 0 ≤ K' (x / 5) := q2
      have q3' : x % 5 < Bpt B (K' (x / 5)) := q3
      by_cases hi : ∃ i, 0 ≤ i ∧ i < Bra B r ∧ x / 5 = na i
      · exfalso
        obtain ⟨i, i0, i1, e⟩ := hi
        rw [e, hkn.1 i i0 i1] at q3'
        have hrt : RLiv B r (5 * i + x % 5) := Or.inl ⟨by omega, by omega, by omega, by
          rw [show (5 * i + x % 5) / 5 = i by omega, show (5 * i + x % 5) % 5 = x % 5 by omega]; exact q3'⟩
        refine hE _ ⟨hrt, fun w => by have := w.2.1; omega⟩ ?_
        unfold Et
        rw [if_pos (by omega), show (5 * i + x % 5) / 5 = i by omega, ← e]
        omega
      · by_cases hb : x / 5 = f ∨ x / 5 = s ∨ Nk N (x / 5) < 0
        · have := hkn.2.2 (x / 5) (by omega) (by omega) (fun i i0 i1 e => hi ⟨i, i0, i1, e⟩) hb
          omega
        · have hk2 : 0 ≤ Nk N (x / 5) := by
            by_cases w : 0 ≤ Nk N (x / 5)
            · exact w
            · exact absurd (Or.inr (Or.inr (by omega))) hb
          have := hkn.2.1 (x / 5) (by omega) (by omega) (fun e => hb (Or.inl e)) (fun e => hb (Or.inr (Or.inl e))) hk2
          rw [this] at q3'
          exact Or.inr ⟨q0, q1, hk2, q3'⟩
  have hW14 : WrC B N f s r na (K', nw' B N f s r na, Ne N, Nr N) s14 (PrtD B N f s r na (PrtA 0)) := by
    intro x hx hd
    obtain ⟨o1, o2⟩ := old x hx hd
    rw [o2]
    unfold rdC
    rw [r14 79 (by omega) (by omega) (by omega) (by omega) (by omega) (by omega), r14 80 (by omega) (by omega) (by omega) (by omega) (by omega) (by omega)]
    by_cases q : x < 0
    · rw [if_pos q]; exact hNC.2.2.1 x o1 q
    · rw [if_neg q]; exact hNC.2.1 x o1 (by omega)
  obtain ⟨s15, g1, g2⟩ := c_wireAg (F := F) h hF hna (hVn (Nr N)) hB14 hO14 hN14 F 0 s14 (by omega) hra.1 (by omega) ⟨⟨rfl, fun _ _ _ _ => rfl⟩, hP14, hW14⟩
  obtain ⟨s16, A, g3, g4, g5⟩ := c_wireOut (F := F) h hF hna (hVn (Nr N)) hB14 hO14 hN14 F 0 (PrtA 60) s15 (by omega) (by omega) (by omega) g2 (fun t ht q => by
    rcases q with q | q
    · exact Or.inl q
    · by_cases h6 : t < 60
      · exact Or.inl h6
      · have := sc_b h ht.1 (by omega)
        omega)
  have r16 : ∀ k, k ≠ 34 → k ≠ 79 → k ≠ 80 → s16.1 k = s14.1 k := fun k x1 x2 x3 => g4.1.2 k x1 x2 x3
  have hB16 : BkC B s16 64 := frw_B hB14 g4.1
  have hO16 : OutC B N f s r s16 := fun t x y => by rw [r16 32 (by omega) (by omega) (by omega), r16 33 (by omega) (by omega) (by omega)]; exact hO14 t x y
  obtain ⟨s17, g6, g7, g8⟩ := c_rings_L (F := F) h hF hB16 hO16 F 8 0 0 (fun _ => False) s16 (by omega) (by omega) (by omega) rfl (fun _ _ => rfl) (fun a _ q => absurd q id) (psc_iff g4.2.1 (fun z _ _ => by
    rw [cov_V h g5 z]
    exact ⟨Or.inl, fun q => by
      rcases q with q | q
      · exact q
      · exact absurd q id⟩))
  -- the reference's wires
  have rt42 : ∀ k, k ≠ 12 → k ≠ 42 → k ≠ 40 → k ≠ 41 → t42.1 k = τ.1 k := fun k x1 x2 x3 x4 => by rw [pM.2 k x1 x2, seti_r x1, seti_r x1, d3 k x3 x4]
  have hB42 : BkM B t42 := bkm_fr hBM (fun k _ _ => rt42 k (by omega) (by omega) (by omega) (by omega)) (fun j _ => by rw [rt42 0 (by omega) (by omega) (by omega) (by omega)]) (by rw [pM.1, seti2, seti2, d2])
  have e4041 : ∀ k, k = 40 ∨ k = 41 → t42.1 k = t1.1 k := fun k hk => by rw [pM.2 k (by omega) (by omega), seti_r (by omega), seti_r (by omega)]
  have hO42 : OutM B N f s r t42 := fun t x y => by rw [e4041 40 (Or.inl rfl)]; exact d4 t x y
  have hN42 : NumM B r na t42 := fun i i0 i1 => (pN i i0 i1).2
  have hP42 : PsM B r t42 (Mkd B N f s r (PrtA 0)) := by
    have : PsM B r t42 (fun _ => False) := by
      unfold PsM at d5 ⊢
      rw [e4041 41 (Or.inr rfl)]; exact d5
    refine psm_iff this (fun z _ _ => ⟨fun q => absurd q id, ?_⟩)
    rintro ⟨t, k, y, q1, q2, _⟩
    have := rl_r h q2.1
    unfold PrtA at q1
    omega
  have hW42 : WrM B N f s r na (K', nw' B N f s r na, Ne N, Nr N) t42 (PrtD B N f s r na (PrtA 0)) := by
    intro x hx hd
    obtain ⟨o1, o2⟩ := old x hx hd
    rw [o2]
    unfold rdM
    rw [rt42 13 (by omega) (by omega) (by omega) (by omega), rt42 14 (by omega) (by omega) (by omega) (by omega)]
    by_cases q : x < 0
    · rw [if_pos q]; exact hNM.2.2.1 x o1 q
    · rw [if_neg q]; exact hNM.2.1 x o1 (by omega)
  obtain ⟨t62, i1, i2⟩ := m_wireAg (F := F) h hF hna (hVn (Nr N)) hB42 hO42 hN42 (I (Bpt B (Nk N f))) (I (Bpt B (Nk N s))) F 0 t42 (by omega) hra.1 (by omega) ⟨⟨rfl, fun _ _ _ _ => rfl⟩, hP42, hW42⟩
  have hD60 : ∀ t, Tm B N f s r t → t < 60 → PrtD B N f s r na (PrtA 60) (Et N f s na t) := fun t ht h6 => by
    obtain ⟨k, y, _, way⟩ := st_way h ht
    exact ⟨t, k, y, h6, ht, way, Or.inl rfl⟩
  obtain ⟨t88, A', D', i3, i4, i5⟩ := m_wireOut (F := F) h hF hna (hVn (Nr N)) hB42 hO42 hN42 F 0 (PrtA 60) (PrtD B N f s r na (PrtA 60)) t62 (by omega) (by omega) (by omega) i2 (fun t ht h6 => h6) (fun x q => q) (fun t ht q => ⟨Or.inl (by unfold PrtA; omega), hD60 t ht (by omega)⟩)
  have rt88 : ∀ k, k ≠ 41 → k ≠ 13 → k ≠ 14 → t88.1 k = t42.1 k := fun k x1 x2 x3 => i4.1.2 k x1 x2 x3
  have hB88 : BkM B t88 := frx_B hB42 i4.1
  have e11 : t88.1 11 r.toNat = Brr B r := (hB88.2.2.2.1 r hr0 hr1).2.2.2
  have e019 : t88.1 0 19 = Nr N := by rw [rt88 0 (by omega) (by omega) (by omega), rt42 0 (by omega) (by omega) (by omega) (by omega)]; exact hNM.2.2.2.2
  have hB89 : BkM B (seti t88 0 19 (t88.1 0 19 + t88.1 11 r.toNat)) := bkm_fr hB88 (fun k _ _ => seti_r (by omega)) (fun j _ => by rw [seti1, if_neg (by omega)]) rfl
  have hO89 : OutM B N f s r (seti t88 0 19 (t88.1 0 19 + t88.1 11 r.toNat)) := fun t x y => by rw [seti_r (by omega), rt88 40 (by omega) (by omega) (by omega)]; exact hO42 t x y
  have hP89 : PsM B r (seti t88 0 19 (t88.1 0 19 + t88.1 11 r.toNat)) (fun z => Mkd B N f s r (fun _ => True) z ∨ False) := by
    have : PsM B r (seti t88 0 19 (t88.1 0 19 + t88.1 11 r.toNat)) (Mkd B N f s r A') := by
      have := i4.2.1
      unfold PsM at this ⊢
      rw [seti_r (by omega)]; exact this
    refine psm_iff this (fun z _ _ => ?_)
    rw [cov_V h (fun t ht => (i5 t ht).1) z]
    exact ⟨Or.inl, fun q => by
      rcases q with q | q
      · exact q
      · exact absurd q id⟩
  obtain ⟨t112, j1, j2, j3, j4, j5⟩ := m_rings_L (F := F) h hF hB89 hO89 (Nr N + Brr B r) F 0 0 (fun _ => False) _ (by omega) (by omega) (by omega) rfl (fun _ _ _ => rfl) (fun _ _ => rfl) (by
    rw [seti1, if_pos ⟨rfl, rfl⟩, e019, e11]
    exact (Int32.add_zero _).symm) (fun a _ q => absurd q id) hP89
  have hvo : (8 - vo 0).toNat = 8 := by decide
  have hvo' : vo 0 = 0 := by decide
  rw [hvo, hvo', Int.zero_add] at j5
  rw [Int.zero_add] at g6
  refine ⟨s9, s10, s11, s12, s13, s14, s15, s16, s17, I (rgA (Brt B r) (onn N f s) (Unp B N f s r) 8 0 (fun _ => False)), t1, t42, t62, t88, t112, (K', nw' B N f s r na, Ne N, Nr N + (Brr B r + I (rgA (Brt B r) (onn N f s) (Unp B N f s r) 8 0 (fun _ => False)))), ⟨a1, a2, a3, b1, c1, ?_, ?_, ?_, ?_, ?_⟩, ⟨d1, e2, i1, i3, j1⟩, hVn _, ?_, ?_, ?_, ⟨?_, ?_⟩, ⟨?_, ?_, ?_⟩, ⟨d2, d3⟩, ?_⟩
  · unfold f_X7_putAgents
    rw [show (0 : Int32) = I 0 from rfl, e1]; rfl
  · unfold f_X7_wireAgents
    rw [show (0 : Int32) = I 0 from rfl, g1]; rfl
  · unfold f_X7_wireOuter
    rw [show (0 : Int32) = I 0 from rfl, g3]; rfl
  · unfold f_X8_ringsIn f_X8_has
    have e := (hB16.2.2.2.1 r hr0 hr1).2.2
    rw [hB16.2.1]
    simp (maxSteps := 4000000) (disch := omega) only [I_lits, nz, nc, if_pos, if_neg, if_true, if_false, Option.bind_some, true_and, and_true, and_self, or_true, true_or, or_false, false_or, not_true_eq_false, not_false_eq_true, false_and, and_false, Bool.false_eq_true, decide_true, decide_false, eq_self, i01, hr0, hr1, e]
  · unfold f_X7_countRings
    rw [show (0 : Int32) = I 0 from rfl, g6]; rfl
  · -- the class' net
    have s77 : ∀ j, j ≠ 3 → j ≠ 6 → s17.1 77 j = σ.1 77 j := fun j x1 x2 => by rw [g8 77 (by omega), r16 77 (by omega) (by omega) (by omega), pC.2.2 j x1 x2, fr13.2.2 j x1 x2, a4.2 77 (by omega) (by omega) (by omega)]
    have hrd : ∀ x, NLiv B (K', nw' B N f s r na, Ne N, Nr N) x → rdC s17 x = I (to8 (nw' B N f s r na x)) := by
      intro x hx
      have : rdC s16 x = I (to8 (nw' B N f s r na x)) := by
        refine g4.2.2 x hx ?_
        by_cases hE : ∃ t, Tm B N f s r t ∧ Et N f s na t = x
        · obtain ⟨t, ht, rfl⟩ := hE
          right
          rcases g5 t ht with q | ⟨t', k', q1, q2, q3⟩
          · obtain ⟨k, y, _, way⟩ := st_way h ht
            exact ⟨t, k, y, q, ht, way, Or.inl rfl⟩
          · exact ⟨t', k', t, q1, q2, q3, Or.inr rfl⟩
        · exact Or.inl (fun t ht e => hE ⟨t, ht, e⟩)
      unfold rdC at this ⊢
      rw [g8 79 (by omega), g8 80 (by omega)]; exact this
    obtain ⟨q1, q2, T, q3, q4, q5, q6⟩ := pA
    refine ⟨fun n n0 n1 => ?_, fun x hx h0 => ?_, fun x hx h0 => ?_, ?_, ?_, ?_, T, q3, q4, ?_, q6⟩
    · rw [seti_r (by omega), g8 78 (by omega), r16 78 (by omega) (by omega) (by omega)]; exact q1 n n0 n1
    · have := hrd x hx
      unfold rdC at this
      rw [if_neg (by omega)] at this
      rw [seti_r (by omega)]; exact this
    · have := hrd x hx
      unfold rdC at this
      rw [if_pos h0] at this
      rw [seti_r (by omega)]; exact this
    · rw [seti1, if_neg (by omega), g8 77 (by omega), r16 77 (by omega) (by omega) (by omega), q2]
      show I (Ncn N - 2 + Bra B r) = I (cnt (fun n => decide (0 ≤ K' n)) 400)
      rw [pCnt]
    · rw [seti1, if_neg (by omega), s77 4 (by omega) (by omega)]; exact hNC.2.2.2.2.1
    · rw [seti1, if_pos ⟨rfl, rfl⟩, r16 77 (by omega) (by omega) (by omega), pC.2.2 5 (by omega) (by omega), fr13.2.2 5 (by omega) (by omega), a4.2 77 (by omega) (by omega) (by omega), hNC.2.2.2.2.2.1]
      rfl
    · rw [seti1, if_neg (by omega), g8 77 (by omega), r16 77 (by omega) (by omega) (by omega)]; exact q5
  · -- the reference's net
    have hrd : ∀ x, NLiv B (K', nw' B N f s r na, Ne N, Nr N) x → rdM t112 x = I (nw' B N f s r na x) := by
      intro x hx
      have : rdM t88 x = I (nw' B N f s r na x) := by
        refine i4.2.2 x hx ?_
        by_cases hE : ∃ t, Tm B N f s r t ∧ Et N f s na t = x
        · obtain ⟨t, ht, rfl⟩ := hE
          exact Or.inr (i5 t ht).2
        · exact Or.inl (fun t ht e => hE ⟨t, ht, e⟩)
      unfold rdM at this ⊢
      rw [j3 13 (by omega) (by omega), j3 14 (by omega) (by omega), seti_r (by omega), seti_r (by omega)]; exact this
    refine ⟨fun n n0 n1 => ?_, fun x hx h0 => ?_, fun x hx h0 => ?_, ?_, ?_⟩
    · rw [j3 12 (by omega) (by omega), seti_r (by omega), rt88 12 (by omega) (by omega) (by omega)]; exact pK n n0 n1
    · have := hrd x hx
      unfold rdM at this
      rw [if_neg (by omega)] at this
      exact this
    · have := hrd x hx
      unfold rdM at this
      rw [if_pos h0] at this
      exact this
    · rw [j4 18 (by omega), seti1, if_neg (by omega), rt88 0 (by omega) (by omega) (by omega), rt42 0 (by omega) (by omega) (by omega) (by omega)]; exact hNM.2.2.2.1
    · rw [j5, Int32.add_assoc]; rfl
  · show cnt (fun n => decide (0 ≤ K' n)) 400 = _
    rw [pCnt]
  · rw [g7, g4.1.1, pC.1, fr13.1, a4.1]
  · intro k x1 x2 x3 x4 x5 x6 x7 x8
    rw [g8 k x3, r16 k x3 x7 x8, r14 k x1 x2 x3 x4 x5 x6]
  · rw [j2, seti2, i4.1.1, pM.1, seti2, seti2, d2]
  · intro k x1 x2 x3 x4 x5 x6 x7
    rw [j3 k x6 x1, seti_r x1, rt88 k x6 x3 x4, rt42 k x2 x7 x5 x6]
  · intro j hj
    rw [j4 j hj, seti1, if_neg (by omega), rt88 0 (by omega) (by omega) (by omega), rt42 0 (by omega) (by omega) (by omega) (by omega)]
  · intro m m0 m1 mf ms mk
    refine ⟨hkn.2.1 m m0 m1 mf ms mk, fun w1 w2 => ?_⟩
    show nw' B N f s r na (5 * m) = _
    refine nw_o h (fun t ht e => ?_)
    have hLm := liv_head hK hV m0 m1 mk
    unfold Et at e
    by_cases l : t < 60
    · rw [if_pos l] at e
      have hp := pt_b h ht.1 l
      have hq := hna.1 (t / 5) (by omega) hp.2.1
      have e5 : na (t / 5) = m := by omega
      rw [e5] at hq
      rcases hq.2.2 with q | q | q
      · omega
      · exact mf q
      · exact ms q
    · rw [if_neg l] at e
      have hL := ps_l h ht.1 (by omega)
      have e2 : ps f s (t - 60) = Nw N (5 * m) := by rw [← (hV.2.2.2 _ hL).2.1, e]
      have ho := ps_on h ht.1 (by omega)
      rw [e2] at ho
      rcases ho with q | q
      · exact w1 q
      · exact w2 q
end REW
