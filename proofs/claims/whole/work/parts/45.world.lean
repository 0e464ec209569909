/-! from the list of cells to the world of a state, within a constructor -/
theorem va_D_anyA {A : Nat → Prop} {w : Wo} {S : List Shp} {σ τ : St} (hD : va_D A (wsF w σ 0 S)) : va_D A (wsF w τ 0 S) := by
  have key : ∀ (i : Nat) (q : Nat × va_E), (wsF w τ 0 S)[i]? = some q → ∃ q0, (wsF w σ 0 S)[i]? = some q0 ∧ q0.1 = q.1 := by
    intro i q h
    rw [wsF_get] at h
    cases hs : S[i]? with
    | none => rw [hs] at h; cases h
    | some sh =>
      rw [hs] at h
      simp only [Option.map_some, Nat.zero_add, Option.some.injEq] at h
      refine ⟨_, wsF_at hs, ?_⟩
      rw [← h]
  refine ⟨fun i j x y hi hj hxy => ?_, fun k q hk => ?_⟩
  · obtain ⟨x0, h1, h2⟩ := key i x hi
    obtain ⟨y0, h3, h4⟩ := key j y hj
    exact hD.1 i j x0 y0 h1 h3 (h2.trans (hxy.trans h4.symm))
  · obtain ⟨q0, h1, h2⟩ := key k q hk
    rw [← h2]
    exact hD.2 k q0 h1
theorem va_D_AW {A : Nat → Prop} {w : Wo} {S : List Shp} {σ : St} (hD : va_D A (wsF w σ 0 S)) : va_D (AW w S) (wsF w σ 0 S) := by
  refine ⟨hD.1, fun k q hk => ?_⟩
  rw [wsF_get] at hk
  cases hs : S[k]? with
  | none => rw [hs] at hk; cases hk
  | some sh =>
    rw [hs] at hk
    simp only [Option.map_some, Nat.zero_add, Option.some.injEq] at hk
    rw [← hk]
    exact ⟨k, (List.getElem?_eq_some_iff.mp hs).1, rfl⟩
theorem AW_in {A : Nat → Prop} {w : Wo} {S : List Shp} {σ : St} (hD : va_D A (wsF w σ 0 S)) : ∀ q, AW w S q → A q := by
  rintro q ⟨k, hk, rfl⟩
  exact hD.2 k _ (wsF_at (List.getElem?_eq_getElem hk))
section PAW
variable {l : Launch} {w : Wo} {Y Z : Mt} {R : Room} {Qc : Array Value → State → Outcome → State → Prop} {mc ms : Nat} {A : Nat → Prop} {pc pc' : Nat} {L L' : Lo} {st rest : List Value} {ws ws' : va_W} {cells slots : Nat} {S : List Shp} {ad : Nat → Nat} {σ : St}
theorem pa_ws (h : ws = ws') (k : PA l w Y R Qc mc ms A pc L st ws' cells slots) : PA l w Y R Qc mc ms A pc L st ws cells slots := h ▸ k
theorem pa_callW {Q : St → Prop} {idx d ci : Nat} {fl : List (Nat × Nat)} (hc : CT l (w.1, w.2.1, ad, false) S Z d [.ref 0] σ (fun r τ => r = none ∧ Q τ)) (cv : CV Y.1.cls idx Z 0 ci) (hs : S[0]? = some (.inr (ci, fl))) (hf : d + 1 ≤ R.frames) (hlo : 8 + (Z.2.2.1 + 11) + 80 * d ≤ R.locals) (hcl : cells ≤ R.cells) (hsl : slots ≤ R.slots) (hd : decode Y.2.1 pc = .ok (.invokevirtual idx, 3)) (hp : pc + 3 = pc') (kk : ∀ τ, Q τ → PA l w Y R Qc mc ms A pc' L [] (wsF (w.1, w.2.1, ad, false) τ 0 S) cells slots) : PA l w Y R Qc mc ms A pc L [.ref (ad 0)] (wsF (w.1, w.2.1, ad, false) σ 0 S) cells slots := by
  subst hp
  intro p e s m args below meth c H locs ls X hl hP hD hS hA
  obtain ⟨hx, hb, hml, hrt, hown, hts, hlk, hK, hN, hnm, hAO⟩ := id X
  obtain ⟨⟨hlink, hini, hcode, hno⟩, hi, hsel, ⟨C, T, N, ty, cf, hC⟩, hm⟩ := cv
  have hDA := va_D_AW hD
  have hrecv : ∃ cell : Cell, H[ad 0]? = some cell ∧ cell.vm.isStatics = false ∧ s.vm.findClass Z.1.cls = some cell.cls := by
    rw [← hC]
    exact va_recv (D := w.1) (q0 := 0) (a := ad 0) (fs := fvals (w.1, w.2.1, ad, false) σ 0 0 fl) hK hP cf.1 (wsF_at hs)
  have hpre : PreV s H Z.1.cls (ad 0) (fun av U => av = (([.ref 0] : List Value).map (tv (w.1, w.2.1, ad, false))).toArray ∧ WoAt (w.1, w.2.1, ad, false) S σ U) [] := ⟨WoAt.blind _, hrecv, fun U hU hW => ⟨rfl, by rw [hU]; exact hP, hDA, va_K.moved hW.alike hK, fun own idx y host hm => va_Nw.warmM hW (hN own idx y host hm), fun hf => by cases hf⟩⟩
  have hR : (rmD d).frames + 1 ≤ R.frames ∧ 8 + (Z.2.2.1 + 11) + (rmD d).locals ≤ R.locals := ⟨hf, hlo⟩
  have hrun : va_Run p l e R s m args below meth c H locs cells slots 0 0 (F0 m pc ls [.ref (ad 0)]) [] (QcP (w.1, w.2.1, ad, false) S (fun r τ => r = none ∧ Q τ) (Value.ref (ad 0) :: []).toArray) (AW (w.1, w.2.1, ad, false) S) := by
    rcases hlink with hlink | ⟨host, hlink⟩
    · exact va_runV (As := []) ⟨hx, hb, hml, hown, hts⟩ hc ⟨callB_of 0 hts (tb_goodIn hcode) rfl rfl rfl (hts _ hini) (hts _ hlink) hno hR, hts _ hi, hts _ hsel⟩ hpre rfl rfl hl.1 rfl (lv_room (by decide)) hd ⟨hcl, hsl⟩
    · exact va_runVN (As := []) ⟨hx, hb, hml, hown, hts⟩ hc ⟨va_cnB 0 hts (tb_goodIn hcode) rfl rfl rfl (hN _ _ _ _ hlink) (hts _ hini) hno hR, hts _ hi, hts _ hsel⟩ hpre rfl rfl hl.1 rfl (lv_room (by decide)) hd ⟨hcl, hsl⟩
  intro T' hT XX
  obtain ⟨v, st₀, t, T2, Lc, h0, X', hL, e1, e2, ⟨⟨r, τ, hv, hq, hPt⟩, hz, hk⟩, stp⟩ := hrun T' hT XX
  obtain ⟨hq1, hq2⟩ := hq
  subst hq1
  have hv' : v = none := Outcome.returned.inj hv
  subst hv'
  rw [h0] at hz hk
  have hin := AW_in hD
  have hS1 : va_S A s.heap T2.heap (locs ++ Lc) := ⟨Nat.le_trans hS.1 (by rw [e1]; exact hz), fun q h1 h2 => by rw [e1, hk q (Nat.lt_of_lt_of_le h1 hS.1) (fun z => h2 (hin q z))]; exact hS.2.1 q h1 h2, fun q hq => by
    rcases List.mem_append.mp hq with h | h
    · exact hS.2.2 q h
    · exact hin _ (hL q h)⟩
  obtain ⟨t2, a1, b1⟩ := kk τ hq2 p e s m args below meth c T2.heap (locs ++ Lc) ls X hl (by rw [e1]; exact hPt) (va_D_anyA hD) hS1 hA T2 rfl X'
  exact ⟨t2, stp t2 a1, b1⟩
theorem pa_getW {ci N k j z idx : Nat} {C : String} {T : u_T} {ty : Nat → FieldType} {fl : List (Nat × Nat)} (cf : CF ci C T N ty) (hs : S[k]? = some (.inr (ci, fl))) (hf : fl[j]? = some (2, z)) (hj : j < N) (hw : Cond.fieldLink Y.1.cls idx (T j).1 (T j).2.1 (T j).2.2.1 ∈ tb) (hd : decode Y.2.1 pc = .ok (.getfield idx, 3)) (hp : pc + 3 = pc') (h : PA l w Y R Qc mc ms A pc' L (.ref (ad z) :: st) (wsF (w.1, w.2.1, ad, false) σ 0 S) cells slots) : PA l w Y R Qc mc ms A pc L (.ref (ad k) :: st) (wsF (w.1, w.2.1, ad, false) σ 0 S) cells slots := by
  refine pa_get (fs := fvals (w.1, w.2.1, ad, false) σ k 0 fl) k cf (wsF_at hs) hj ?_ hw hd hp h
  rw [fvals_get, hf]
  simp [fval]
theorem pa_iastW {k n : Nat} {i x : Int32} (hs : S[k]? = some (.inl (0, n))) (hi : inb i n = true) (hd : decode Y.2.1 pc = .ok (.iastore, 1)) (hp : pc + 1 = pc') (h : PA l w Y R Qc mc ms A pc' L st (wsF (w.1, w.2.1, ad, false) (seti σ k (ix i) x) 0 S) cells slots) : PA l w Y R Qc mc ms A pc L (.int x :: .int i :: .ref (ad k) :: st) (wsF (w.1, w.2.1, ad, false) σ 0 S) cells slots := by
  subst hp
  intro p e s m args below meth c H locs ls X hl hP hD hS hA
  refine va_iast X.1 X.2.1 X.2.2.2.2.2.2.2.1 hP hD hS k 0 (cA := w.2.1 0) (n := n) (f := σ.1 k) (wsF_at hs) rfl (inb_in hi) hd ?_
  intro H1 locs1 hP1 hD1 hS1
  have e1 : (wsF (w.1, w.2.1, ad, false) σ 0 S).set k (ad k, .inl (w.2.1 0, n, .inl (upd (σ.1 k) i.toNatClampNeg x))) = wsF (w.1, w.2.1, ad, false) (seti σ k (ix i) x) 0 S := wsF_set (w := (w.1, w.2.1, ad, false)) hs (by show Sum.inl (w.2.1 0, n, Sum.inl ((seti σ k (ix i) x).1 k)) = _; rw [seti_row]) seti_o
  rw [e1] at hP1 hD1
  exact h p e s m args below meth c H1 locs1 ls X hl hP1 hD1 hS1 hA
end PAW
theorem empty_spec (F : Nat) : ∀ (m n i : Nat) (g : St), 400 - i = m → i ≤ 400 → m < n → ∃ τ, f_X12_empty_L2 F n (nI i) g = some τ ∧ (∀ j, i ≤ j → j < 400 → τ.1 12 j = -1) ∧ (∀ j, j < i → τ.1 12 j = g.1 12 j) ∧ (∀ k j, k ≠ 12 → τ.1 k j = g.1 k j) ∧ τ.2 = g.2 := by
  intro m
  induction m with
  | zero =>
    intro n i g hm hi hn
    obtain ⟨n, rfl⟩ : ∃ k, n = k + 1 := ⟨n - 1, by omega⟩
    have e : i = 400 := by omega
    subst e
    refine ⟨g, ?_, fun j h1 h2 => by omega, fun j _ => rfl, fun k j _ => rfl, rfl⟩
    rw [f_X12_empty_L2, if_neg (by decide)]
  | succ m ih =>
    intro n i g hm hi hn
    obtain ⟨n, rfl⟩ : ∃ k, n = k + 1 := ⟨n - 1, by omega⟩
    have hlt : i < 400 := by omega
    have hix : ix (nI i) = i := nI_clamp (by omega)
    have hinb : inb (nI i) 400 = true := by
      simp only [inb, Bool.and_eq_true, decide_eq_true_eq]
      exact ⟨nI_pos' (by omega), by rw [nI_clamp (by omega)]; exact hlt⟩
    obtain ⟨τ, h1, h2, h3, h4, h5⟩ := ih n (i + 1) (seti g 12 i (-1)) (by omega) (by omega) (by omega)
    refine ⟨τ, ?_, fun j hj1 hj2 => ?_, fun j hj => ?_, fun k j hk => ?_, h5⟩
    · rw [f_X12_empty_L2, if_pos (show nI i < 400 from nI_lt (b := 400) hlt (by decide)), if_pos hinb, Option.bind_some, hix, nI_1]
      exact h1
    · by_cases hji : j = i
      · subst hji
        rw [h3 j (by omega)]
        simp [seti]
      · exact h2 j (by omega) hj2
    · rw [h3 j (by omega)]
      have : j ≠ i := by omega
      simp [seti, this]
    · rw [h4 k j hk]
      simp [seti, hk]
theorem empty_ok (F : Nat) (hF : 400 < F) (g : St) : ∃ τ, f_X12_empty F g = some τ ∧ (∀ j, j < 400 → τ.1 12 j = -1) ∧ (∀ k j, k ≠ 12 → τ.1 k j = if k = 0 ∧ (j = 18 ∨ j = 19) then 0 else g.1 k j) ∧ τ.2 = g.2 := by
  obtain ⟨τ, h1, h2, h3, h4, h5⟩ := empty_spec F 400 F 0 g (by omega) (by omega) hF
  refine ⟨seti (seti τ 0 18 0) 0 19 0, ?_, fun j hj => ?_, fun k j hk => ?_, h5⟩
  · unfold f_X12_empty
    rw [show (0 : Int32) = nI 0 from nI_0.symm, h1]
    rfl
  · show (if 12 = 0 ∧ j = 19 then (0 : Int32) else if 12 = 0 ∧ j = 18 then 0 else τ.1 12 j) = -1
    rw [if_neg (by omega), if_neg (by omega)]
    exact h2 j (by omega) hj
  · show (if k = 0 ∧ j = 19 then (0 : Int32) else if k = 0 ∧ j = 18 then 0 else τ.1 k j) = _
    rw [h4 k j hk]
    by_cases hk0 : k = 0
    · by_cases h19 : j = 19
      · simp [hk0, h19]
      · by_cases h18 : j = 18
        · simp [hk0, h18]
        · simp [h18, h19]
    · simp [hk0]
