/-! read -/
section RDA
variable {F : Nat} {σ τ : St} {q : Int}
theorem c_emptySh (hF : 10000 ≤ F) (s : St) : ∃ g, f_X11_emptyShelves F s = some g ∧ g.2 = s.2 ∧ (∀ c, c ≠ 39 → c ≠ 43 → c ≠ 47 → c ≠ 51 → g.1 c = s.1 c) ∧ ∀ z : Int, 0 ≤ z → z < 4 → g.1 (39 + 4 * z.toNat) 7 = 0 := by
  obtain ⟨F', e⟩ : ∃ F', F = F' + 1 + 1 + 1 + 1 + 1 := ⟨F - 5, by omega⟩
  have st : ∀ (m : Nat) (z : Int) (g : St), 0 ≤ z → z < 4 → f_X11_emptyShelves_L2 F (m + 1) (I z) g = f_X11_emptyShelves_L2 F m (I (z + 1)) (seti g (39 + 4 * z.toNat) 7 (0 : Int32)) := fun m z g z0 z1 => by
    rw [f_X11_emptyShelves_L2, if_pos ((Ilt (4) (4) (by omega) (by omega) (by omega) (by omega)).mpr (by omega)), c_shelfAt (by omega) (by omega), if_pos ⟨z0, z1⟩, Option.bind_some, show I z + (1 : Int32) = I (z + 1) by rw [show (1 : Int32) = I 1 from rfl, I_add]]
    rfl
  refine ⟨seti (seti (seti (seti s 39 7 (0 : Int32)) 43 7 (0 : Int32)) 47 7 (0 : Int32)) 51 7 (0 : Int32), ?_, rfl, fun c a b d e => ?_, fun z z0 z1 => ?_⟩
  · unfold f_X11_emptyShelves
    have h0 : f_X11_emptyShelves_L2 F F (0 : Int32) s = some (seti (seti (seti (seti s 39 7 (0 : Int32)) 43 7 (0 : Int32)) 47 7 (0 : Int32)) 51 7 (0 : Int32)) := by
      show f_X11_emptyShelves_L2 F F (I 0) s = _
      have h1 : ∀ m : Nat, m = F' + 1 + 1 + 1 + 1 + 1 → f_X11_emptyShelves_L2 F m (I 0) s = some (seti (seti (seti (seti s 39 7 (0 : Int32)) 43 7 (0 : Int32)) 47 7 (0 : Int32)) 51 7 (0 : Int32)) := fun m hm => by
        rw [hm, st _ 0 s (by omega) (by omega), st _ (0 + 1) _ (by omega) (by omega), st _ (0 + 1 + 1) _ (by omega) (by omega), st _ (0 + 1 + 1 + 1) _ (by omega) (by omega), f_X11_emptyShelves_L2, if_neg (show ¬ (I (0 + 1 + 1 + 1 + 1) < (4 : Int32)) by decide)]
        rfl
      exact h1 F e
    rw [h0]; rfl
  · rw [seti_r e, seti_r d, seti_r b, seti_r a]
  · rcases (show z = 0 ∨ z = 1 ∨ z = 2 ∨ z = 3 by omega) with e | e | e | e <;> (subst e; simp [seti1])
theorem mnet_n {B : BkT} {Nt : NtT} {c : Int} {τ : St} (h : MNet B Nt c τ) : Ncn Nt = c := by
  obtain ⟨_, h2, h3, h4, _⟩ := h
  unfold Ncn
  rw [← cnt_top 400 c.toNat (by omega) (fun i a b => by
    rw [h4 i (by omega) b]; rfl), cnt_all c.toNat (fun i a b => decide_eq_true (h3 i a (by omega)).1)]
  omega
theorem piS_e : piS 0 = 0 ∧ piS 1 = 1 ∧ piS 9 = 9 ∧ piS 10 = 10 := by decide
theorem piS_m {k : Nat} (h : 31 ≤ k ∧ k ≤ 63) : piS k = k := by
  unfold piS
  rw [if_neg (by omega), if_neg (by omega)]
theorem op_read (hF : 10000 ≤ F) (h : Sim σ τ q) : Op (f_X11_read F σ) (f_X12_read F τ) q := by
  obtain ⟨B, N', cor, tp, ou, jo, sh, pl, dr, b20⟩ := h
  obtain ⟨n, ch, hA, hC, hM⟩ := tx_of tp
  -- the class begins
  obtain ⟨g1, a1, a2, a3, a4, a5, a6, a7, a8⟩ := c_bclear hF σ
  obtain ⟨s4, e4⟩ : ∃ s4, s4 = seti (seti (seti g1 1 3 (0 : Int32)) 1 4 (0 : Int32)) 1 7 (-1 : Int32) := ⟨_, rfl⟩
  have c4 : ∀ c, c ≠ 1 → s4.1 c = g1.1 c := fun c x => by rw [e4, seti_r x, seti_r x, seti_r x]
  have hC4 : TxC n ch s4 := ⟨by rw [c4 9 (by omega), a3 9 (by omega) (by omega) (by omega) (by omega) (by omega)]; exact hC.1, fun i x y => by rw [c4 10 (by omega), a3 10 (by omega) (by omega) (by omega) (by omega) (by omega)]; exact hC.2 i x y⟩
  obtain ⟨s5, K, N, b1, b2, b3, b4⟩ := c_scan hA hF hC4 (by rw [e4, seti1, if_pos ⟨rfl, rfl⟩]; rfl)
  have c5 : ∀ c, c ≠ 1 → c ≠ 9 → c ≠ 11 → c ≠ 12 → c ≠ 15 → c ≠ 19 → c ≠ 20 → c ≠ 27 → c ≠ 28 → s5.1 c = σ.1 c := fun c x1 x2 x3 x4 x5 x6 x7 x8 x9 => by rw [b2.1 c x2 x3 x4, c4 c x1, a3 c x5 x6 x7 x8 x9]
  have c5' : ∀ c, c ≠ 1 → c ≠ 9 → c ≠ 11 → c ≠ 12 → s5.1 c = g1.1 c := fun c x1 x2 x3 x4 => by rw [b2.1 c x2 x3 x4, c4 c x1]
  have fr5 : FrRg σ s5 := ⟨fun c x => c5 c (by omega) (by omega) (by omega) (by omega) (by omega) (by omega) (by omega) (by omega) (by omega), by rw [b2.2.1 6 (by omega) (by omega) (by omega) (by omega), c4 9 (by omega), a3 9 (by omega) (by omega) (by omega) (by omega) (by omega)], fun c x1 x2 x3 x4 => by rw [b2.2.2.1 c x3 x2, e4]; show g1.2 c = _; rw [a2]⟩
  -- the reference begins
  obtain ⟨t6, et6⟩ : ∃ t6, t6 = seti (seti (seti (seti (seti (seti τ 0 36 (0 : Int32)) 0 41 (0 : Int32)) 0 48 (0 : Int32)) 0 63 (0 : Int32)) 0 66 (0 : Int32)) 0 68 (0 : Int32) := ⟨_, rfl⟩
  obtain ⟨t13, d1, d2, d3, d4⟩ := m_fill21 (F := F) t6 F 0 t6 (by omega) (by omega) rfl (fun _ _ => rfl) (fun i x => by omega)
  obtain ⟨t15, et15⟩ : ∃ t15, t15 = seti (seti t13 0 31 (0 : Int32)) 0 2 (-1 : Int32) := ⟨_, rfl⟩
  have m15 : ∀ c, c ≠ 0 → c ≠ 21 → t15.1 c = τ.1 c := fun c x y => by rw [et15, seti_r x, seti_r x, d3 c y, et6, seti_r x, seti_r x, seti_r x, seti_r x, seti_r x, seti_r x]
  have m150 : ∀ j, j ≠ 2 → j ≠ 31 → j ≠ 36 → j ≠ 41 → j ≠ 48 → j ≠ 63 → j ≠ 66 → j ≠ 68 → t15.1 0 j = τ.1 0 j := fun j x1 x2 x3 x4 x5 x6 x7 x8 => by rw [et15, seti1, if_neg (by omega), seti1, if_neg (by omega), d3 0 (by omega), et6, seti1, if_neg (by omega), seti1, if_neg (by omega), seti1, if_neg (by omega), seti1, if_neg (by omega), seti1, if_neg (by omega), seti1, if_neg (by omega)]
  have m15z : ∀ j, j = 36 ∨ j = 41 ∨ j = 48 ∨ j = 63 ∨ j = 66 ∨ j = 68 → t15.1 0 j = I 0 := fun j x => by
    rw [et15, seti1, if_neg (by omega), seti1, if_neg (by omega), d3 0 (by omega), et6]
    rcases x with e | e | e | e | e | e <;> (subst e; simp [seti1]; rfl)
  have m152 : t15.2 = τ.2 := by rw [et15]; show t13.2 = _; rw [d2, et6]; rfl
  have hM15 : TxM n ch t15 := ⟨by rw [m150 1 (by omega) (by omega) (by omega) (by omega) (by omega) (by omega) (by omega) (by omega)]; exact hM.1, fun i x y => by rw [m15 1 (by omega) (by omega)]; exact hM.2 i x y⟩
  obtain ⟨t0, f1, f2, f3⟩ := m_take_0 hA hF b3 hM15 (by rw [et15, seti1, if_pos ⟨rfl, rfl⟩]; rfl) (by rw [et15, seti1, if_neg (by omega), seti1, if_pos ⟨rfl, rfl⟩]; rfl)
  have t00 : ∀ j, j ≠ 29 → j ≠ 30 → j ≠ 31 → j ≠ 33 → j ≠ 34 → t0.1 0 j = t15.1 0 j := f2.2.1
  have fq0 : FrQg τ t0 := frq_tr (b := t15) ⟨fun c x => m15 c (by omega) (by omega), fun j x => m150 j (by omega) (by omega) (by omega) (by omega) (by omega) (by omega) (by omega) (by omega), fun c _ _ _ => by rw [m152], fun j _ => by rw [m152], fun p j x => by rw [m15 20 (by omega) (by omega)]; exact p j x⟩ (frq_t f2)
  have z0 : ∀ j, j = 36 ∨ j = 41 ∨ j = 48 ∨ j = 63 ∨ j = 66 ∨ j = 68 → t0.1 0 j = I 0 := fun j x => by rw [t00 j (by omega) (by omega) (by omega) (by omega) (by omega)]; exact m15z j x
  have hrd : RdS n ch K N σ τ B00 0 s5 t0 := by
    refine ⟨b4, f3, fr5, fq0, ?_, ?_, ?_⟩
    · rw [b2.1 1 (by omega) (by omega) (by omega), e4, seti1, if_neg (by omega), seti1, if_pos ⟨rfl, rfl⟩]; rfl
    · refine bks00 ?_ ?_ (fun j x => ?_) (z0 36 (by omega)) (z0 41 (by omega)) (fun j x => ?_)
      · rw [c5' 15 (by omega) (by omega) (by omega) (by omega)]; exact a4
      · rw [c5' 19 (by omega) (by omega) (by omega) (by omega)]; exact a5
      · rw [c5' 20 (by omega) (by omega) (by omega) (by omega)]; exact a6 j x
      · rw [f2.1 21 (by omega), et15, seti_r (by omega), seti_r (by omega)]; exact d4 j x
    · refine nts00 ?_ (fun j x => ?_) (fun j x y => ?_) (z0 48 (by omega)) (z0 63 (by omega)) (z0 66 (by omega)) (z0 68 (by omega))
      · rw [b2.1 1 (by omega) (by omega) (by omega), e4, seti1, if_neg (by omega), seti1, if_neg (by omega), seti1, if_pos ⟨rfl, rfl⟩]; rfl
      · rw [c5' 28 (by omega) (by omega) (by omega) (by omega)]; exact a7 j x
      · rw [c5' 27 (by omega) (by omega) (by omega) (by omega)]; exact a8 j x y
  have n4 := hA.2.1
  have tN1 := b3.2.1
  have cls : ∀ s', f_X6_readText_L31 F F (I 0) s5 = some s' → f_X6_readText F σ = some (s'.1 1 4, seti s' 9 6 (0 : Int32)) := fun s' hs => by
    unfold f_X6_readText
    rw [a1, Option.bind_some, Option.bind_some, Option.bind_some, Option.bind_some, ← e4, b1, Option.bind_some, show f_X6_readText_L31 F F (0 : Int32) s5 = _ from hs, Option.bind_some, Option.bind_some, seti_r (show (1 : Nat) ≠ 9 by omega)]
  have ref : ∀ r t', f_X12_readBook_L4 F F t0 = some (r, t') → f_X12_read F τ = (if r = 0 then some ((-10 : Int32) - ((seti t' 0 1 (0 : Int32)).1 0 35), seti t' 0 1 (0 : Int32)) else Option.bind (f_X12_takeOver F (seti t' 0 1 (0 : Int32))) fun s19 => some (s19.1 0 63, s19)) := fun r t' ht => by
    unfold f_X12_read f_X12_readBook
    rw [Option.bind_some, Option.bind_some, Option.bind_some, Option.bind_some, Option.bind_some, Option.bind_some, ← et6, show f_X12_read_L32 F F (0 : Int32) t6 = _ from d1, Option.bind_some, Option.bind_some, Option.bind_some, ← et15, f1, Option.bind_some, ht, Option.bind_some, Option.bind_some]
  rcases text_L hA b3 hF F 0 0 B00 s5 t0 (by omega) (by omega) (by omega) hrd with ⟨σ', τ', x1, x2, x3⟩ | ⟨B', k', σ', τ', x1, x2, x3⟩
  · -- a fault
    obtain ⟨y1, y2, cd, z, y3, y4, y5, y6, y7, y8⟩ := x3
    refine ⟨(-10 : Int32) - I cd, seti σ' 9 6 (0 : Int32), seti τ' 0 1 (0 : Int32), ?_, ?_, B, N', ?_, ?_, ?_, ?_, fun s s0 s1 => ?_, ?_, ?_, fun j x => ?_⟩
    · unfold f_X11_read f_X11_read0
      rw [cls σ' x1, Option.bind_some, y5, if_neg (show ¬ (I cd = (0 : Int32)) from fun w => by have := (Ieq (0) (0) (by omega) (by omega) (by omega) (by omega)).mp w; omega), Option.bind_some]
    · rw [ref _ _ x2, if_pos (show I 0 = (0 : Int32) from rfl), seti1, if_neg (by omega), y6]
    · exact cor_fr cor (fun a x y => by rw [seti_r (by omega)]; exact y1.1 a (by omega)) (by rw [seti2]; exact y1.2.2 66 (by omega) (by omega) (by omega) (by omega)) (fun a x y => by rw [seti_r (by omega)]; exact y2.1 a (by omega)) (fun j x => by rw [seti1, if_neg (by omega)]; exact y2.2.1 j (by omega)) (by rw [seti2]; exact y2.2.2.1 2 (by omega) (by omega) (by omega))
    · exact ⟨0, by omega, by omega, by rw [seti1, if_pos ⟨rfl, rfl⟩]; rfl, by rw [seti1, if_pos ⟨rfl, rfl⟩]; rfl, fun i a b => by omega⟩
    · exact ou_fr ou (by rw [seti_r (by omega)]; exact y1.1 63 (by omega)) (by rw [seti_r (by omega), y1.1 62 (by omega)]) (by rw [seti_r (by omega)]; exact y2.1 16 (by omega)) (by rw [seti1, if_neg (by omega)]; exact y2.2.1 28 (by omega))
    · exact jo_fr jo (by rw [seti_r (by omega)]; exact y1.1 37 (by omega)) (by rw [seti_r (by omega)]; exact y1.1 36 (by omega)) (by rw [seti_r (by omega)]; exact y2.1 15 (by omega)) (fun j x y => by rw [seti1, if_neg (by omega)]; exact y2.2.1 j (by omega))
    · exact sh_fr s0 s1 (sh s s0 s1) (fun a x y => by rw [seti_r (by omega)]; exact y1.1 a (by omega)) (by rw [seti_r (by omega), y1.1 36 (by omega)]) (fun a x y => by rw [seti_r (by omega)]; exact y2.1 a (by omega))
    · rw [seti_r (by omega), seti1, if_neg (by omega), y7, y8]
    · rw [seti2, seti2, y1.2.2 0 (by omega) (by omega) (by omega) (by omega), y2.2.2.2.1 24 (by omega)]; exact dr
    · rw [seti_r (by omega)]; exact y2.2.2.2.2 b20 j x
  · -- read
    obtain ⟨y1, y2, y3, y4, y5, y6, fl, Nt, c, n1, n2, n3, n4', n5, n6, n7⟩ := x3
    have hc := mnet_n n6
    have c0 := n6.2.1
    have e0 := n4'.1
    have e8 := n4'.2.1
    obtain ⟨s24, e24⟩ : ∃ s24, s24 = seti σ' 9 6 (0 : Int32) := ⟨_, rfl⟩
    have q24 : ∀ c, c ≠ 9 → s24.1 c = σ'.1 c := fun c x => by rw [e24, seti_r x]
    obtain ⟨sw, esw⟩ : ∃ sw, sw = swS s24 := ⟨_, rfl⟩
    have w1 : ∀ k, sw.1 k = s24.1 (piS k) := fun k => by rw [esw]; rfl
    have w2 : ∀ k, sw.2 k = s24.2 (piS k) := fun k => by rw [esw]; rfl
    obtain ⟨s1, e1⟩ : ∃ s1, s1 = seti (seti (seti sw 36 1 (0 : Int32)) 36 2 (sw.1 77 3)) 36 3 (0 : Int32) := ⟨_, rfl⟩
    obtain ⟨sf, v1, v2, v3, v4⟩ := c_emptySh hF s1
    have sz : sw.1 77 3 = I c := by
      rw [w1, show piS 77 = 27 by decide, q24 27 (by omega), ← hc]; exact n5.2.2.2.1
    have vf : ∀ k, k ≠ 36 → k ≠ 39 → k ≠ 43 → k ≠ 47 → k ≠ 51 → sf.1 k = s24.1 (piS k) := fun k x1 x2 x3 x4 x5 => by rw [v3 k x2 x3 x4 x5, e1, seti_r x1, seti_r x1, seti_r x1, w1]
    have vf2 : ∀ k, sf.2 k = s24.2 (piS k) := fun k => by rw [v2, e1]; show sw.2 k = _; rw [w2]
    have f36 : ∀ j, j ≠ 1 → j ≠ 2 → j ≠ 3 → sf.1 36 j = σ.1 36 j := fun j x1 x2 x3 => by
      rw [v3 36 (by omega) (by omega) (by omega) (by omega), e1, seti1, if_neg (by omega), seti1, if_neg (by omega), seti1, if_neg (by omega), w1, piS_m (by omega), q24 36 (by omega), y3.1 36 (by omega)]
    have p17 : σ'.1 1 4 = (0 : Int32) := y5
    obtain ⟨cn, ecn⟩ : ∃ cn : Nat, c = cn := ⟨c.toNat, by omega⟩
    obtain ⟨en, een⟩ : ∃ en : Nat, Ne Nt = en := ⟨(Ne Nt).toNat, by omega⟩
    have s17c : ∀ k, k ≠ 0 → (seti τ' 0 1 (0 : Int32)).1 k = τ'.1 k := fun k x => seti_r x
    have s170 : ∀ j, j ≠ 1 → (seti τ' 0 1 (0 : Int32)).1 0 j = τ'.1 0 j := fun j x => by rw [seti1, if_neg (by omega)]
    obtain ⟨tf, o1, o2, o3, o4, o5, o6, o7, o8, o9, o10, o11, o12, o13, o14, o15, o16⟩ := m_over hF (τ := seti τ' 0 1 (0 : Int32)) (fun j x => by rw [s17c 20 (by omega)]; exact y4.2.2.2.2 b20 j x) (c := cn) (E := en) (by omega) (by omega) (by rw [s170 63 (by omega), ← ecn]; exact n6.1) (by rw [s170 66 (by omega), ← een]; exact n6.2.2.2.2.2.2.1)
    obtain ⟨hKV, hDis, hKC, hKM, hRV, hRC, hRM, hRF⟩ := y6
    obtain ⟨jn, jm, j1, j2, j3, j4, j5, j6, j7, j8, j9, j10, j11, j12, j13, j14⟩ := jo
    refine ⟨I c, sf, tf, ?_, ?_, B', Nt, ⟨hKV, hRV, n4', ⟨?_, ?_⟩, ⟨?_, ?_⟩, ?_, ?_⟩, ?_, ?_, ?_, fun s s0 s1' => ?_, ?_, ?_, fun j x => ?_⟩
    · unfold f_X11_read f_X11_read0
      rw [cls σ' x1, Option.bind_some, if_pos (show σ'.1 1 4 = (0 : Int32) from p17), Option.bind_some, ← e24]
      show f_X11_read1 F (swS s24) = _
      unfold f_X11_read1 f_X2_clear
      rw [← esw, Option.bind_some, Option.bind_some, Option.bind_some, ← e1, Option.bind_some, v1, Option.bind_some, vf 77 (by omega) (by omega) (by omega) (by omega) (by omega), ← w1, sz]
    · rw [ref _ _ x2, if_neg (show ¬ (I 1 = (0 : Int32)) by decide), o1, Option.bind_some, o3 63 (by omega) (by omega) (by omega) (by omega) (by omega) (by omega) (by omega) (by omega), s170 63 (by omega), n6.1]
    · show KdC B' (sf.1 65) (sf.2 66) (sf.1 67) (sf.1 68)
      rw [vf 65 (by omega) (by omega) (by omega) (by omega) (by omega), vf 67 (by omega) (by omega) (by omega) (by omega) (by omega), vf 68 (by omega) (by omega) (by omega) (by omega) (by omega), vf2 66, show piS 65 = 15 by decide, show piS 66 = 16 by decide, show piS 67 = 17 by decide, show piS 68 = 18 by decide, q24 15 (by omega), q24 17 (by omega), q24 18 (by omega), e24]
      exact hKC
    · show RuC B' (sf.1 69) (sf.1 70) (sf.1 71) (sf.1 72) (sf.1 73) (sf.1 74) (sf.1 75) (sf.1 76)
      rw [vf 69 (by omega) (by omega) (by omega) (by omega) (by omega), vf 70 (by omega) (by omega) (by omega) (by omega) (by omega), vf 71 (by omega) (by omega) (by omega) (by omega) (by omega), vf 72 (by omega) (by omega) (by omega) (by omega) (by omega), vf 73 (by omega) (by omega) (by omega) (by omega) (by omega), vf 74 (by omega) (by omega) (by omega) (by omega) (by omega), vf 75 (by omega) (by omega) (by omega) (by omega) (by omega), vf 76 (by omega) (by omega) (by omega) (by omega) (by omega), show piS 69 = 19 by decide, show piS 70 = 20 by decide, show piS 71 = 21 by decide, show piS 72 = 22 by decide, show piS 73 = 23 by decide, show piS 74 = 24 by decide, show piS 75 = 25 by decide, show piS 76 = 26 by decide, q24 19 (by omega), q24 20 (by omega), q24 21 (by omega), q24 22 (by omega), q24 23 (by omega), q24 24 (by omega), q24 25 (by omega), q24 26 (by omega)]
      exact hRC
    · have b16 := hKV.2.1
      refine ⟨by rw [o4.1, s170 36 (by omega)]; exact hKM.1, fun k a b => ?_, fun k a b => ?_, fun k p a b d e => ?_⟩
      · rw [(o6 k.toNat (by omega)).1]; exact hKM.2.1 k a b
      · rw [(o6 k.toNat (by omega)).2, s17c 18 (by omega)]; exact hKM.2.2.1 k a b
      · have pb := hKV.2.2.1 k a b
        rw [(o7 (5 * k + p).toNat (by omega)).1, (o7 (5 * k + p).toNat (by omega)).2, s17c 19 (by omega), s17c 20 (by omega)]
        exact hKM.2.2.2 k p a b d e
    · have b16 := hKV.2.1
      have r60 := hRV.2.1
      refine ⟨by rw [o4.2.1, s170 41 (by omega)]; exact hRM.1, fun a b a0 a1 b0 b1 => ?_, fun r r0 r1 => ?_, fun r i r0 r1 i0 i1 => ?_, fun r t r0 r1 ht => ?_⟩
      · rw [o8 _ (by omega), s17c 21 (by omega)]; exact hRM.2.1 a b a0 a1 b0 b1
      · rw [o10 _ (by omega), o10 _ (by omega), (o9 _ (by omega)).1, (o9 _ (by omega)).2, s17c 22 (by omega), s17c 23 (by omega), s17c 26 (by omega)]; exact hRM.2.2.1 r r0 r1
      · have ra := hRV.2.2.2.1 r r0 r1
        rw [o11 _ (by omega), s17c 24 (by omega)]; exact hRM.2.2.2.1 r i r0 r1 i0 i1
      · have tb : 0 ≤ t ∧ t < 70 := by
          rcases ht with w | w <;> omega
        rw [o12 _ (by omega), s17c 25 (by omega)]; exact hRM.2.2.2.2 r t r0 r1 ht
    · show NetC B' Nt (sf.1 77) (sf.1 78) (sf.1 79) (sf.1 80)
      rw [vf 77 (by omega) (by omega) (by omega) (by omega) (by omega), vf 78 (by omega) (by omega) (by omega) (by omega) (by omega), vf 79 (by omega) (by omega) (by omega) (by omega) (by omega), vf 80 (by omega) (by omega) (by omega) (by omega) (by omega), show piS 77 = 27 by decide, show piS 78 = 28 by decide, show piS 79 = 29 by decide, show piS 80 = 30 by decide, q24 27 (by omega), q24 28 (by omega), q24 29 (by omega), q24 30 (by omega)]
      exact n5
    · refine ⟨fun a x y => ?_, fun x hx x0 => ?_, fun x hx x0 => ?_, ?_, ?_⟩
      · rw [o13 _ (by omega), s17c 37 (by omega)]
        by_cases w : a < c
        · rw [if_pos (by omega)]; exact (n6.2.2.1 a x w).2
        · rw [if_neg (by omega), n6.2.2.2.1 a (by omega) y]
      · have hl := liv_ag hx x0
        have : x / 5 < c := by
          by_cases w : x / 5 < c
          · exact w
          · have := n6.2.2.2.1 (x / 5) (by omega) (by omega)
            omega
        rw [o14 _ (by omega), s17c 38 (by omega)]; exact n6.2.2.2.2.1 x hx x0
      · have hl : x ≤ -2 ∧ -2 - x < Ne Nt := by
          rcases hx with w | w
          · exact w
          · omega
        rw [o15 _ (by omega), s17c 39 (by omega)]; exact n6.2.2.2.2.2.1 x hx x0
      · rw [o4.2.2.1, s170 66 (by omega)]; exact n6.2.2.2.2.2.2.1
      · rw [o4.2.2.2.1, s170 68 (by omega)]; exact n6.2.2.2.2.2.2.2
    · refine ⟨0, by omega, by omega, ?_, ?_, fun i a b => by omega⟩
      · rw [vf 9 (by omega) (by omega) (by omega) (by omega) (by omega), piS_e.2.2.1, e24, seti1, if_pos ⟨rfl, rfl⟩]; rfl
      · rw [o3 1 (by omega) (by omega) (by omega) (by omega) (by omega) (by omega) (by omega) (by omega), seti1, if_pos ⟨rfl, rfl⟩]; rfl
    · refine ou_fr ou ?_ ?_ ?_ ?_
      · rw [vf 63 (by omega) (by omega) (by omega) (by omega) (by omega), piS_m (by omega), q24 63 (by omega), y3.1 63 (by omega)]
      · rw [vf 62 (by omega) (by omega) (by omega) (by omega) (by omega), piS_m (by omega), q24 62 (by omega), y3.1 62 (by omega)]
      · rw [o2 16 (by omega), s17c 16 (by omega), y4.1 16 (by omega)]
      · rw [o3 28 (by omega) (by omega) (by omega) (by omega) (by omega) (by omega) (by omega) (by omega), s170 28 (by omega), y4.2.1 28 (by omega)]
    · have t23 : tf.1 0 23 = τ.1 0 23 := by rw [o3 23 (by omega) (by omega) (by omega) (by omega) (by omega) (by omega) (by omega) (by omega), s170 23 (by omega), y4.2.1 23 (by omega)]
      refine ⟨0, c, by omega, by omega, by omega, ?_, o4.2.2.2.2.1, o4.2.2.2.2.2.2.2, by omega, by omega, ?_, ?_, ?_, ?_, ?_, fun j a b d => by omega⟩
      · rw [v3 36 (by omega) (by omega) (by omega) (by omega), e1, seti1, if_neg (by omega), seti1, if_neg (by omega), seti1, if_pos ⟨rfl, rfl⟩]; rfl
      · rw [v3 36 (by omega) (by omega) (by omega) (by omega), e1, seti1, if_neg (by omega), seti1, if_pos ⟨rfl, rfl⟩, sz]
      · rw [o4.2.2.2.2.2.1, s170 63 (by omega)]; exact n6.1
      · rw [v3 36 (by omega) (by omega) (by omega) (by omega), e1, seti1, if_pos ⟨rfl, rfl⟩, o4.2.2.2.2.2.2.1]; rfl
      · rw [f36 4 (by omega) (by omega) (by omega), t23]; exact j12
      · rw [t23]; exact j13
    · left
      refine ⟨v4 s s0 s1', ?_⟩
      exact o16 s.toNat (by omega)
    · rw [vf 1 (by omega) (by omega) (by omega) (by omega) (by omega), piS_e.2.1, q24 1 (by omega), y1.1.2, o3 2 (by omega) (by omega) (by omega) (by omega) (by omega) (by omega) (by omega) (by omega), s170 2 (by omega), y2.1.2]
    · rw [vf2 0, piS_e.1, e24]
      show σ'.2 0 9 = _
      rw [y3.2.2 0 (by omega) (by omega) (by omega) (by omega), o5 0 (by omega)]
      show σ.2 0 9 = τ'.2 0 24
      rw [y4.2.2.2.1 24 (by omega)]; exact dr
    · rw [o2 20 (by omega), s17c 20 (by omega)]; exact y4.2.2.2.2 b20 j x
end RDA
