/-! the law's own run: calls -/
section PLC
variable {l : Launch} {b Lq : Nat} {xs : Nat → Int32} {ce sl : Nat} {w wm : Wo} {pc pc' : Nat} {L L' : Lo} {st rest : List Value} {σ τ : St} {Z : Mt} {d : Nat}
theorem ge_AW {A : Nat → Prop} {S : List Shp} {w : Wo} {σ : St} (hD : va_D A (wsF w σ 0 S)) {q : Nat} (h : AW w S q) : A q := by
  obtain ⟨k, hk, e⟩ := h
  obtain ⟨sh, hs⟩ : ∃ sh, S[k]? = some sh := ⟨_, List.getElem?_eq_getElem hk⟩
  have := hD.2 k _ (wsF_at hs)
  rw [e]
  exact this
theorem pl_callC {Qc : Array Value → State → Outcome → State → Prop} {q : Int32 × St} {As : List Value} {idx n : Nat} {st0 : List Value} (hM : Met l Z.1 (.code Z.1 Z.2.1 Z.2.2.1 Z.2.2.2 :: tb) (rmD d) (fun av U => av = ((Value.ref 0 :: As).map (tv w)).toArray ∧ WoAt w shC σ U) Qc 0 0 (AW w shC)) (hQ : ∀ a s1 oc t, Qc a s1 oc t → QcR w q a s1 oc t)
    (hAs : As.map (tv w) = As) (hlk : Cond.methodLink R_law idx Z.1 ∈ tb) (cv : CV R_law idx Z n 11) (hn : As.length = n) (hst : As.reverse ++ .ref (w.2.2.1 0) :: rest = st0) (hW : (rest.map fun v => v.category).sum ≤ 8) (hdd : d ≤ 200) (hce : ce ≤ 600000) (hsl : sl ≤ 7302250) (hd : decode code pc = .ok (.invokevirtual idx, 3)) (hp : pc + 3 = pc')
    (kk : ∀ w', (w' = w ∨ w' = swW w) → PL l b Lq xs ce sl w' wm pc' L (.int q.1 :: rest) q.2 τ) : PL l b Lq xs ce sl w wm pc L st0 σ τ := by
  subst hst; subst hp
  intro p e s m below meth c H locs ls C X hl hP hD hS
  obtain ⟨hx, hb, hr, hml, hown, hts, hX, hbl, hlocks, hgv⟩ := id C
  obtain ⟨hw1, hw2, hw3, hK, hN, hZ⟩ := id X
  obtain ⟨⟨hlink, hini, hcode, hno⟩, hi, hsel, ⟨C', T', N', ty', cf, hC'⟩, hm60⟩ := cv
  have hts' : ∀ q ∈ tb, q.before #[Value.ref b] s = true := fun q hq => hts q (tb_lw q hq)
  have hPc : va_P w.1 vwCl (wsF w σ 0 shC) H := fun k q h => hP k q (app_l h)
  have hPm : va_P w.1 vwCl (wsF wm τ 0 shM) H := fun k q h => hP _ q (app_r h)
  have hDc0 : va_D (fun q => s.heap.size ≤ q) (wsF w σ 0 shC) := ⟨fun i j x y hi hj e => hD.1 i j x y (app_l hi) (app_l hj) e, fun k q h => hD.2 k q (app_l h)⟩
  have hDm0 : va_D (fun q => s.heap.size ≤ q) (wsF wm τ 0 shM) := ⟨fun i j x y hi hj e => by
    have := hD.1 _ _ x y (app_r (A := wsF w σ 0 shC) hi) (app_r (A := wsF w σ 0 shC) hj) e
    omega, fun k q h => hD.2 _ q (app_r h)⟩
  have hDc : va_D (AW w shC) (wsF w σ 0 shC) := ⟨hDc0.1, fun k q h => AW_mem h⟩
  have hap : ∀ (k : Nat) (q : Nat × va_E), (wsF wm τ 0 shM)[k]? = some q → ¬ AW w shC q.1 := fun k q h ⟨i, hi, e⟩ => by
    obtain ⟨sh, hs⟩ : ∃ sh, shC[i]? = some sh := ⟨_, List.getElem?_eq_getElem hi⟩
    have h1 := wsF_at (w := w) (σ := σ) hs
    have h2 := (List.getElem?_eq_some_iff.mp h1).1
    have := hD.1 _ _ _ q (app_l h1) (app_r (A := wsF w σ 0 shC) h) e.symm
    omega
  have hS0 : va_S (AW w shC) s.heap H [] := ⟨hS.1, fun q h1 _ => hS.2.1 q h1 (Nat.not_le.mpr h1), fun q h => absurd h List.not_mem_nil⟩
  have hR : (rmD d).frames + 1 ≤ room_1.frames ∧ 8 + (Z.2.2.1 + 11) + (rmD d).locals ≤ room_1.locals := ⟨by show d + 1 ≤ 2048; omega, by show 8 + (Z.2.2.1 + 11) + 80 * d ≤ 84000; omega⟩
  have hrecv : ∃ cell : Cell, H[w.2.2.1 0]? = some cell ∧ cell.vm.isStatics = false ∧ s.vm.findClass Z.1.cls = some cell.cls := by
    rw [← hC']
    exact va_recv hK hPc cf.1 (wsF_at sC_0)
  have hpre : PreV s H Z.1.cls (w.2.2.1 0) (fun av U => av = ((Value.ref 0 :: As).map (tv w)).toArray ∧ WoAt w shC σ U) As := ⟨WoAt.blind _, hrecv, fun U hU hW => ⟨by rw [List.map_cons, hAs]; rfl, WoAt.at hK hN hZ hPc hDc hS0 hU hW⟩⟩
  have hrun := va_runV (p := p) (e := e) (below := below) (meth := meth) (locs := locs) (g := F0 m pc ls (As.reverse ++ .ref (w.2.2.1 0) :: rest)) (cells := ce) (slots := sl) ⟨hx, hb, hml, hown, hts'⟩ hM ⟨callB_of n hts' (tb_goodIn hcode) rfl rfl rfl (hts' _ hini) (hts' _ hlk) hno hR, hts' _ hi, hts' _ hsel⟩ hpre rfl hn hl.1 rfl (lv_room hW) hd ⟨hce, hsl⟩
  intro T hT XX
  obtain ⟨v, st₀, t, T', Lc, h0, X', hL, e1, e2, hQ', stp⟩ := hrun T hT XX
  have key : ∃ w', (w' = w ∨ w' = swW w) ∧ v = some (.int q.1) ∧ va_P w.1 vwCl (wsF w' q.2 0 shC) t.heap ∧ va_F (AW w shC) st₀ t ∧ LX w' wm s ∧ va_D (AW w shC) (wsF w' q.2 0 shC) ∧ w'.1 = w.1 := by
    rcases hQ _ _ _ _ hQ' with ⟨⟨r, τ', hv, ⟨hr1, hr2⟩, hPt⟩, hF⟩ | ⟨⟨r, τ', hv, ⟨hr1, hr2⟩, hPt⟩, hF⟩
    · subst hr1; subst hr2
      exact ⟨w, Or.inl rfl, Outcome.returned.inj hv, hPt, hF, X, va_D_any hDc, rfl⟩
    · subst hr1; subst hr2
      have hDs := sw_D hDc
      refine ⟨swW w, Or.inr rfl, Outcome.returned.inj hv, hPt, ?_, ⟨hw1, hw2, hw3, hK, hN, Zs_sw hZ⟩, ?_, rfl⟩
      · rw [AW_sw] at hF; exact hF
      · have := va_D_any (τ := q.2) hDs
        rw [AW_sw] at this
        exact this
  obtain ⟨w', hw', hv, hPt, hF, hLX, hD1, hw1'⟩ := key
  subst hv
  have hge : ∀ q, AW w shC q → s.heap.size ≤ q := fun q h => ge_AW hDc0 h
  obtain ⟨hz, hk⟩ := hF
  rw [h0] at hz hk
  have hPm' : va_P w.1 vwCl (wsF wm τ 0 shM) t.heap := fun k q h => (hPm k q h).kept (hk q.1 (hPm k q h).lt (hap k q h))
  have hP' : va_P w.1 vwCl (wsF w' q.2 0 shC ++ wsF wm τ 0 shM) T'.heap := by rw [e1]; exact va_P.app hPt hPm'
  have hD' : va_D (fun q => s.heap.size ≤ q) (wsF w' q.2 0 shC ++ wsF wm τ 0 shM) := va_D.app (hD1.weaken (fun _ q _ h => hge q.1 h)) hDm0 (fun i j x y hx hy hxy => hap j y hy (by rw [← hxy]; exact hD1.2 i x hx))
  have hS' : va_S (fun q => s.heap.size ≤ q) s.heap T'.heap (locs ++ Lc) := ⟨Nat.le_trans hS.1 (by rw [e1]; exact hz), fun q h1 h2 => by
    rw [e1, hk q (Nat.lt_of_lt_of_le h1 hS.1) (fun h => absurd (hge q h) h2)]
    exact hS.2.1 q h1 h2, fun q hq => by
    rcases List.mem_append.mp hq with h | h
    · exact hS.2.2 q h
    · exact hge _ (hL q h)⟩
  have fin := kk w' hw' p e s m below meth c T'.heap (locs ++ Lc) ls C hLX hl (by rw [hw1']; exact hP') hD' hS'
  obtain ⟨t2, a1, b1⟩ := fin T' rfl X'
  exact ⟨t2, stp t2 a1, b1⟩
theorem pl_callM {q : Int32 × St} {As : List Value} {idx n : Nat} {st0 : List Value} (hM : CT l wm shM Z d (.ref 0 :: As) τ (fun r τ' => r = some (.int q.1) ∧ τ' = q.2))
    (hAs : As.map (tv wm) = As) (hlk : Cond.methodLink R_law idx Z.1 ∈ tb) (cv : CV R_law idx Z n 12) (hn : As.length = n) (hst : As.reverse ++ .ref (wm.2.2.1 0) :: rest = st0) (hW : (rest.map fun v => v.category).sum ≤ 8) (hdd : d ≤ 200) (hce : ce ≤ 600000) (hsl : sl ≤ 7302250) (hd : decode code pc = .ok (.invokevirtual idx, 3)) (hp : pc + 3 = pc')
    (kk : PL l b Lq xs ce sl w wm pc' L (.int q.1 :: rest) σ q.2) : PL l b Lq xs ce sl w wm pc L st0 σ τ := by
  subst hst; subst hp
  intro p e s m below meth c H locs ls C X hl hP hD hS
  obtain ⟨hx, hb, hr, hml, hown, hts, hX, hbl, hlocks, hgv⟩ := id C
  obtain ⟨hw1, hw2, hw3, hK, hN, hZ⟩ := id X
  obtain ⟨⟨hlink, hini, hcode, hno⟩, hi, hsel, ⟨C', T', N', ty', cf, hC'⟩, hm60⟩ := cv
  have hts' : ∀ q ∈ tb, q.before #[Value.ref b] s = true := fun q hq => hts q (tb_lw q hq)
  have hPc : va_P w.1 vwCl (wsF w σ 0 shC) H := fun k q h => hP k q (app_l h)
  have hPm0 : va_P w.1 vwCl (wsF wm τ 0 shM) H := fun k q h => hP _ q (app_r h)
  have hPm : va_P wm.1 vwCl (wsF wm τ 0 shM) H := by rw [hw1]; exact hPm0
  have hKm : va_K wm.1 vwCl (tysW wm) s := by
    have : tysW wm = tysW w := by unfold tysW; rw [hw2]
    rw [hw1, this]; exact hK
  have hZm : Zs wm shM s := fun h => by rw [hw3] at h; cases h
  have hDc0 : va_D (fun q => s.heap.size ≤ q) (wsF w σ 0 shC) := ⟨fun i j x y hi hj e => hD.1 i j x y (app_l hi) (app_l hj) e, fun k q h => hD.2 k q (app_l h)⟩
  have hDm0 : va_D (fun q => s.heap.size ≤ q) (wsF wm τ 0 shM) := ⟨fun i j x y hi hj e => by
    have := hD.1 _ _ x y (app_r (A := wsF w σ 0 shC) hi) (app_r (A := wsF w σ 0 shC) hj) e
    omega, fun k q h => hD.2 _ q (app_r h)⟩
  have hDm : va_D (AW wm shM) (wsF wm τ 0 shM) := ⟨hDm0.1, fun k q h => AW_mem h⟩
  have hap : ∀ (k : Nat) (q : Nat × va_E), (wsF w σ 0 shC)[k]? = some q → ¬ AW wm shM q.1 := fun k q h ⟨i, hi, e⟩ => by
    obtain ⟨sh, hs⟩ : ∃ sh, shM[i]? = some sh := ⟨_, List.getElem?_eq_getElem hi⟩
    have h1 := wsF_at (w := wm) (σ := τ) hs
    have h2 := (List.getElem?_eq_some_iff.mp h).1
    have := hD.1 _ _ q _ (app_l h) (app_r (A := wsF w σ 0 shC) h1) e
    omega
  have hS0 : va_S (AW wm shM) s.heap H [] := ⟨hS.1, fun q h1 _ => hS.2.1 q h1 (Nat.not_le.mpr h1), fun q h => absurd h List.not_mem_nil⟩
  have hR : (rmD d).frames + 1 ≤ room_1.frames ∧ 8 + (Z.2.2.1 + 11) + (rmD d).locals ≤ room_1.locals := ⟨by show d + 1 ≤ 2048; omega, by show 8 + (Z.2.2.1 + 11) + 80 * d ≤ 84000; omega⟩
  have hrecv : ∃ cell : Cell, H[wm.2.2.1 0]? = some cell ∧ cell.vm.isStatics = false ∧ s.vm.findClass Z.1.cls = some cell.cls := by
    rw [← hC']
    exact va_recv hKm hPm cf.1 (wsF_at sM_0)
  have hpre : PreV s H Z.1.cls (wm.2.2.1 0) (fun av U => av = ((Value.ref 0 :: As).map (tv wm)).toArray ∧ WoAt wm shM τ U) As := ⟨WoAt.blind _, hrecv, fun U hU hW => ⟨by rw [List.map_cons, hAs]; rfl, WoAt.at hKm hN hZm hPm hDm hS0 hU hW⟩⟩
  have hrun := va_runV (p := p) (e := e) (below := below) (meth := meth) (locs := locs) (g := F0 m pc ls (As.reverse ++ .ref (wm.2.2.1 0) :: rest)) (cells := ce) (slots := sl) ⟨hx, hb, hml, hown, hts'⟩ hM ⟨callB_of n hts' (tb_goodIn hcode) rfl rfl rfl (hts' _ hini) (hts' _ hlk) hno hR, hts' _ hi, hts' _ hsel⟩ hpre rfl hn hl.1 rfl (lv_room hW) hd ⟨hce, hsl⟩
  intro T hT XX
  obtain ⟨v, st₀, t, T', Lc, h0, X', hL, e1, e2, ⟨⟨r, τ', hv, ⟨hr1, hr2⟩, hPt⟩, hF⟩, stp⟩ := hrun T hT XX
  subst hr1; subst hr2
  have hv' : v = some (.int q.1) := Outcome.returned.inj hv
  subst hv'
  have hge : ∀ q, AW wm shM q → s.heap.size ≤ q := fun q h => ge_AW hDm0 h
  obtain ⟨hz, hk⟩ := hF
  rw [h0] at hz hk
  have hPc' : va_P w.1 vwCl (wsF w σ 0 shC) t.heap := fun k q h => (hPc k q h).kept (hk q.1 (hPc k q h).lt (hap k q h))
  have hD1 : va_D (AW wm shM) (wsF wm q.2 0 shM) := va_D_any hDm
  have hP' : va_P w.1 vwCl (wsF w σ 0 shC ++ wsF wm q.2 0 shM) T'.heap := by
    rw [hw1] at hPt
    rw [e1]; exact va_P.app hPc' hPt
  have hD' : va_D (fun q => s.heap.size ≤ q) (wsF w σ 0 shC ++ wsF wm q.2 0 shM) := va_D.app hDc0 (hD1.weaken (fun _ q _ h => hge q.1 h)) (fun i j x y hx hy hxy => hap i x hx (by rw [hxy]; exact hD1.2 j y hy))
  have hS' : va_S (fun q => s.heap.size ≤ q) s.heap T'.heap (locs ++ Lc) := ⟨Nat.le_trans hS.1 (by rw [e1]; exact hz), fun q h1 h2 => by
    rw [e1, hk q (Nat.lt_of_lt_of_le h1 hS.1) (fun h => absurd (hge q h) h2)]
    exact hS.2.1 q h1 h2, fun q hq => by
    rcases List.mem_append.mp hq with h | h
    · exact hS.2.2 q h
    · exact hge _ (hL q h)⟩
  have fin := kk p e s m below meth c T'.heap (locs ++ Lc) ls C X hl hP' hD' hS'
  obtain ⟨t2, a1, b1⟩ := fin T' rfl X'
  exact ⟨t2, stp t2 a1, b1⟩
end PLC
