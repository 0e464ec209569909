/-! Arrays.fill in any world; arrays of references; small steps of constructors -/
set_option maxRecDepth 20000 in
theorem gS_fill_L5 (l : Launch) (w : Wo) {S : List Shp} (F : Nat) {a na : Nat} (ha : S[a]? = some (.inl (0, na))) (c1 : Int32) (c3 : Int32) : ∀ (n : Nat) (v2 : Int32) (g : St), GG l w S m_J7_fill_53178 1 5 [some (.ref a), some (.int c1), some (.int v2), some (.int c3)] [] g (f_J7_fill_53178_L5 F a na c1 c3 n v2 g) (fun (t : St) => .inl (20, [none, none, none, none], [], t)) := by
  intro n
  induction n with
  | zero =>
    intro v2 g
    exact gg_none
  | succ n ih =>
    intro v2 g
    rw [f_J7_fill_53178_L5]
    refine gg_st (go_iload_n 2 d_J7_fill_53178_5 rfl rfl rfl) ?_
    refine gg_st (go_iload_n 3 d_J7_fill_53178_6 rfl rfl rfl) ?_
    refine gg_br (br_icmp_ge (tgt := 20) (pc' := 10) d_J7_fill_53178_7 (by decide) rfl) (fun h5 => ?_) (fun h5 => ?_)
    · refine gg_st (go_aload_n 0 d_J7_fill_53178_10 rfl rfl rfl) ?_
      refine gg_st (go_iload_n 2 d_J7_fill_53178_11 rfl rfl rfl) ?_
      refine gg_st (go_iload_n 1 d_J7_fill_53178_12 rfl rfl rfl) ?_
      refine gg_gd (fun h6 => ?_)
      refine gg_st (go_iast ha h6 d_J7_fill_53178_13 rfl) ?_
      refine gg_som (fun s7 => ?_)
      refine gg_st (go_iinc 2 d_J7_fill_53178_14 rfl (v := v2 + (1 : Int32)) (by rw [ci_1]) (by decide) (L' := [some (.ref a), some (.int c1), some (.int (v2 + (1 : Int32))), some (.int c3)]) rfl rfl) ?_
      refine gg_st (go_goto (pc' := 5) d_J7_fill_53178_17 (by decide)) ?_
      exact ih (v2 + (1 : Int32)) s7
    · refine gg_st (go_fg [none, none, none, none] trivial) ?_
      exact gg_end rfl
set_option maxRecDepth 20000 in
theorem kS_fill (l : Launch) (w : Wo) {S : List Shp} (F : Nat) {a na : Nat} (ha : S[a]? = some (.inl (0, na))) (p1 : Int32) (σ : St) : K l w S m_J7_fill_53178 1 [.ref a, .int p1] σ (f_J7_fill_53178 F a na p1 σ) (rV) := by
  refine k_of (L := [some (.ref a), some (.int p1), none, none]) (plainFor_of_name (by decide +kernel)) 2 rfl (Nat.le_of_ble_eq_true rfl) ?_
  unfold f_J7_fill_53178
  refine gg_st (go_iconst d_J7_fill_53178_0 ci_0 rfl) ?_
  refine gg_st (go_istore_n 2 d_J7_fill_53178_1 rfl (by decide) (L' := [some (.ref a), some (.int p1), some (.int (0 : Int32)), none]) rfl rfl) ?_
  refine gg_st (go_aload_n 0 d_J7_fill_53178_2 rfl rfl rfl) ?_
  refine gg_st (go_alen ha (v := Int32.ofNat na) rfl d_J7_fill_53178_3 rfl) ?_
  refine gg_nm (fun _ => [some (.ref a), some (.int p1), some (.int (0 : Int32)), none]) (fun (x1 : Int32) => [.int x1]) (fun x1 => ?_)
  refine gg_st (go_istore_n 3 d_J7_fill_53178_4 rfl (by decide) (L' := [some (.ref a), some (.int p1), some (.int (0 : Int32)), some (.int x1)]) rfl rfl) ?_
  refine gg_bind 20 (fun (t8 : St) => [none, none, none, none]) (fun (t8 : St) => []) (fun (t8 : St) => t8) (gS_fill_L5 l w F ha p1 x1 F (0 : Int32) σ) (fun t8 => ?_)
  exact gg_vret rfl d_J7_fill_53178_20 rfl
theorem fill_spec (F a na : Nat) (c1 : Int32) (hna : na < 2 ^ 31) : ∀ (m n i : Nat) (g : St), na - i = m → i ≤ na → m < n → ∃ τ, f_J7_fill_53178_L5 F a na c1 (Int32.ofNat na) n (nI i) g = some τ ∧ (∀ j, i ≤ j → j < na → τ.1 a j = c1) ∧ (∀ j, j < i → τ.1 a j = g.1 a j) ∧ (∀ k j, k ≠ a → τ.1 k j = g.1 k j) ∧ τ.2 = g.2 := by
  intro m
  induction m with
  | zero =>
    intro n i g hm hi hn
    obtain ⟨n, rfl⟩ : ∃ k, n = k + 1 := ⟨n - 1, by omega⟩
    have e : i = na := by omega
    subst e
    refine ⟨g, ?_, fun j h1 h2 => by omega, fun j _ => rfl, fun k j _ => rfl, rfl⟩
    rw [f_J7_fill_53178_L5, if_neg (show ¬ nI i < Int32.ofNat i from nI_nlt (Nat.le_refl i) hna)]
  | succ m ih =>
    intro n i g hm hi hn
    obtain ⟨n, rfl⟩ : ∃ k, n = k + 1 := ⟨n - 1, by omega⟩
    have hlt : i < na := by omega
    have hix : ix (nI i) = i := nI_clamp (by omega)
    have hinb : inb (nI i) na = true := by
      simp only [inb, Bool.and_eq_true, decide_eq_true_eq]
      exact ⟨nI_pos' (by omega), by rw [nI_clamp (by omega)]; exact hlt⟩
    obtain ⟨τ, h1, h2, h3, h4, h5⟩ := ih n (i + 1) (seti g a i c1) (by omega) (by omega) (by omega)
    refine ⟨τ, ?_, fun j hj1 hj2 => ?_, fun j hj => ?_, fun k j hk => ?_, h5⟩
    · rw [f_J7_fill_53178_L5, if_pos (show nI i < Int32.ofNat na from nI_lt hlt hna), if_pos hinb, Option.bind_some, hix, nI_1]
      exact h1
    · by_cases hji : j = i
      · subst hji
        rw [h3 j (by omega)]
        simp [seti]
      · exact h2 j (by omega) hj2
    · rw [h3 j (by omega)]
      have : j ≠ i := by omega
      simp [seti, this]
    · rw [h4 k j hk]
      simp [seti, hk]
theorem fill_ok (a na : Nat) (c1 : Int32) (g : St) (hna : na < 2 ^ 31) : ∃ τ, f_J7_fill_53178 (na + 1) a na c1 g = some τ ∧ (∀ j, j < na → τ.1 a j = c1) ∧ (∀ k j, k ≠ a → τ.1 k j = g.1 k j) ∧ τ.2 = g.2 := by
  obtain ⟨τ, h1, h2, h3, h4, h5⟩ := fill_spec (na + 1) a na c1 hna na (na + 1) 0 g (by omega) (by omega) (by omega)
  refine ⟨τ, ?_, fun j hj => h2 j (by omega) hj, h4, h5⟩
  unfold f_J7_fill_53178
  rw [Option.bind_some, show (0 : Int32) = nI 0 from nI_0.symm, h1]
  rfl
section PAF
variable {l : Launch} {w : Wo} {Y Z : Mt} {R : Room} {Qc : Array Value → State → Outcome → State → Prop} {mc ms : Nat} {A : Nat → Prop} {pc pc' : Nat} {L L' : Lo} {st rest : List Value} {ws wr : va_W} {cells slots : Nat}
theorem pa_fill {idx a n : Nat} {v : Int32} {f : Nat → Int32} (q0 : Nat) (he : ws[q0]? = some (a, .inl (w.2.1 0, n, .inl f))) (hn : n < 2 ^ 31) (cs : CS Y.1.cls idx m_J7_fill_53178 2) (hf : 2 ≤ R.frames) (hlo : 8 + (4 + 11) + 80 ≤ R.locals) (hc : cells ≤ R.cells) (hs : slots ≤ R.slots) (hW : (rest.map fun v => v.category).sum ≤ 8) (hd : decode Y.2.1 pc = .ok (.invokestatic idx, 3)) (hp : pc + 3 = pc') (h : ∀ f' : Nat → Int32, (∀ j, j < n → f' j = v) → PA l w Y R Qc mc ms A pc' L rest (ws.set q0 (a, .inl (w.2.1 0, n, .inl f'))) cells slots) : PA l w Y R Qc mc ms A pc L (.int v :: .ref a :: rest) ws cells slots := by
  subst hp
  intro p e s m args below meth c H locs ls X hl hP hD hS hA
  obtain ⟨hx, hb, hml, hrt, hown, hts, hlk, hKK, hN, hnm⟩ := id X
  obtain ⟨⟨hlink, hini, hcode, hno⟩, hst, hm⟩ := cs
  obtain ⟨τ, h1, h2, h3, h4⟩ := fill_ok 0 n v ((fun _ => f), (fun _ _ => 0)) hn
  have hM := kS_fill l (w.1, w.2.1, (fun _ => a), false) (S := [.inl (0, n)]) (n + 1) (a := 0) (na := n) rfl v ((fun _ => f), (fun _ _ => 0)) τ h1
  have hq0 : va_P w.1 vwCl [(a, .inl (w.2.1 0, n, .inl f))] H := fun k q hk => by
    have hk0 : k = 0 := by
      have := (List.getElem?_eq_some_iff.mp hk).1
      simp at this
      exact this
    subst hk0
    cases hk
    exact hP q0 _ he
  have hD0 : va_D (AW (w.1, w.2.1, (fun _ => a), false) [.inl (0, n)]) [(a, .inl (w.2.1 0, n, .inl f))] := by
    refine ⟨fun i j x y hi hj _ => ?_, fun k q hk => ?_⟩
    · have h1 := (List.getElem?_eq_some_iff.mp hi).1
      have h2 := (List.getElem?_eq_some_iff.mp hj).1
      simp at h1 h2
      omega
    · have hk0 : k = 0 := by
        have := (List.getElem?_eq_some_iff.mp hk).1
        simp at this
        exact this
      subst hk0
      cases hk
      exact ⟨0, by simp, rfl⟩
  have hpre : PreS s H (fun av U => av = (([.ref 0, .int v] : List Value).map (tv (w.1, w.2.1, (fun _ => a), false))).toArray ∧ WoAt (w.1, w.2.1, (fun _ => a), false) [.inl (0, n)] ((fun _ => f), (fun _ _ => 0)) U) [.ref a, .int v] :=
    ⟨WoAt.blind _, fun U hU hW => ⟨rfl, by rw [hU]; exact hq0, hD0, va_K.moved hW.alike hKK, fun own idx y host hm => va_Nw.warmM hW (hN own idx y host hm), fun hf => by cases hf⟩⟩
  have hrun := va_runS (g := F0 m pc ls (.int v :: .ref a :: rest)) (e := e) (below := below) (meth := meth) (locs := locs) (cells := cells) (slots := slots) (rest := rest) (As := [.ref a, .int v]) (n := 2) ⟨hx, hb, hml, hown, hts⟩ hM ⟨callB_of (R := R) 2 hts (tb_goodIn hcode) rfl rfl rfl (hts _ hini) (by
    rcases hlink with hlink | ⟨host, hlink⟩
    · exact hts _ hlink
    · exact absurd hlink (by
        intro hz
        have key : tables_1.all (fun c => match c with | .methodLinkNest _ _ y _ => decide (y ≠ m_J7_fill_53178.1) | _ => true) = true := by decide +kernel
        have := List.all_eq_true.mp key _ hz
        simp at this)) hno ⟨hf, hlo⟩, hts _ hst⟩ hpre rfl rfl hl.1 rfl (lv_room hW) hd ⟨hc, hs⟩
  intro T hT XX
  obtain ⟨v', st₀, t, T', Lc, g0, X', hL, e1, e2, ⟨⟨r, τ', hv, hq, hPt⟩, hz, hk⟩, stp⟩ := hrun T hT XX
  obtain ⟨hq1, hq2⟩ := hq
  subst hq1; subst hq2
  have hv' : v' = none := Outcome.returned.inj hv
  subst hv'
  rw [g0] at hz hk
  have hAa : A a := hD.2 q0 _ he
  have hnot : ∀ q : Nat, q ≠ a → ¬ AW (w.1, w.2.1, (fun _ => a), false) [.inl (0, n)] q := fun q hq ⟨_, _, z⟩ => hq z
  have hcell : t.heap[a]? = some (vp_cell (w.2.1 0) (n, .inl (τ'.1 0))) := hPt 0 (a, .inl (w.2.1 0, n, .inl (τ'.1 0))) rfl
  have hPn : va_P w.1 vwCl (ws.set q0 (a, .inl (w.2.1 0, n, .inl (τ'.1 0)))) T'.heap := by
    rw [e1]
    intro k q hk'
    have hl0 := (List.getElem?_eq_some_iff.mp he).1
    by_cases hkq : k = q0
    · subst hkq
      rw [List.getElem?_set_self hl0] at hk'
      cases hk'
      exact hcell
    · rw [List.getElem?_set_ne (Ne.symm hkq)] at hk'
      exact (hP k q hk').kept (hk q.1 (hP k q hk').lt (hnot q.1 (fun z => hkq (hD.1 k q0 q _ hk' he z))))
  have hS1 : va_S A s.heap T'.heap (locs ++ Lc) := ⟨Nat.le_trans hS.1 (by rw [e1]; exact hz), fun q h1 h2 => by rw [e1, hk q (Nat.lt_of_lt_of_le h1 hS.1) (hnot q (fun z => h2 (z ▸ hAa)))]; exact hS.2.1 q h1 h2, fun q hq => by
    rcases List.mem_append.mp hq with h | h
    · exact hS.2.2 q h
    · obtain ⟨_, _, z⟩ := hL q h
      rw [z]
      exact hAa⟩
  obtain ⟨t2, a1, b1⟩ := h (τ'.1 0) (fun j hj => h2 j hj) p e s m args below meth c T'.heap (locs ++ Lc) ls X hl hPn (hD.set he) hS1 hA T' rfl X'
  exact ⟨t2, stp t2 a1, b1⟩
theorem pa_anew {idx : Nat} {n : Int32} {N : Nat} (hn : ¬ n < 0) (hN : n.toNatClampNeg = N) (hb4 : N * 4 ≤ 536870912) (hcl : Cond.classLink Y.1.cls idx "HeadNets$Net" ∈ tb) (hc : cells + 1 ≤ R.cells) (hs : slots + N ≤ R.slots) (hd : decode Y.2.1 pc = .ok (.anewarray idx, 3)) (hp : pc + 3 = pc') (h : ∀ q, PA l w Y R Qc mc ms A pc' L (.ref q :: st) (ws ++ [(q, .inl (w.2.1 4, N, .inr (.inr (.inr (.inr (fun _ => none))))))]) (cells + 1) (slots + N)) : PA l w Y R Qc mc ms A pc L (.int n :: st) ws cells slots := by
  subst hp
  intro p e s m args below meth c H locs ls C hl hP hD hS hA
  refine va_newq C.1 C.2.1 C.2.2.2.2.1 (C.2.2.2.2.2.1 _ hcl) C.2.2.2.2.2.2.2.2.2.2 C.2.2.2.2.2.2.2.1 hP hD hS hA hn hN hb4 hc hs hd ?_
  intro q cA H1 hK1 hP1 hD1 hS1
  obtain ⟨_, _, _, _, _, f1⟩ := (hK1.2 5 (cA, .object "HeadNets$Net") rfl).2
  obtain ⟨_, _, _, _, _, f2⟩ := (C.2.2.2.2.2.2.2.1.2 4 (w.2.1 4, .object "HeadNets$Net") rfl).2
  have e3 : cA = w.2.1 4 := Option.some.inj (f1.symm.trans f2)
  subst e3
  exact h q p e s m args below meth c H1 locs ls C hl hP1 hD1 hS1 hA
theorem pa_aast {a vv n : Nat} {i : Int32} {vs : List Value} {f : Nat → Option Nat} {ws' : va_W} (q0 qk : Nat) (ha : ws[q0]? = some (a, .inl (w.2.1 4, n, .inr (.inr (.inr (.inr f)))))) (hv : ws[qk]? = some (vv, .inr (4, vs))) (hi : inb i n = true) (hd : decode Y.2.1 pc = .ok (.aastore, 1)) (hp : pc + 1 = pc') (hws : ws.set q0 (a, .inl (w.2.1 4, n, .inr (.inr (.inr (.inr (va_up f i.toNatClampNeg (some vv))))))) = ws') (h : PA l w Y R Qc mc ms A pc' L st ws' cells slots) : PA l w Y R Qc mc ms A pc L (.ref vv :: .int i :: .ref a :: st) ws cells slots := by
  subst hp; subst hws
  intro p e s m args below meth c H locs ls C hl hP hD hS hA
  exact va_astq (r := (Rc4, Tc4, 8)) C.1 C.2.1 C.2.2.2.2.2.2.2.1 hP hD hS q0 4 qk 4 ha rfl hv rfl (inb_in hi) hd (fun H1 locs1 hP1 hD1 hS1 => h p e s m args below meth c H1 locs1 ls C hl hP1 hD1 hS1 hA)
theorem pa_iinc {x v : Int32} {l0 : Nat} (hd : decode Y.2.1 pc = .ok (.iinc 1 1, 3)) (hv : x + Int32.ofInt 1 = v) (hn : 1 < Y.2.2.1) (hp : pc + 3 = pc') (h : PA l w Y R Qc mc ms A pc' [some (.ref l0), some (.int v)] st ws cells slots) : PA l w Y R Qc mc ms A pc [some (.ref l0), some (.int x)] st ws cells slots := by
  subst hp
  intro p e s m args below meth c H locs ls C hl hP hD hS hA
  have hh : lv_has ls Y.2.2.1 [(1, .int x), (0, .ref l0)] := ⟨hl.1, hl.2.1, fun q hq => by
    rcases List.mem_cons.mp hq with hq | hq
    · subst hq
      exact hl.2.2 1 _ rfl
    · rw [List.mem_singleton] at hq
      subst hq
      exact hl.2.2 0 _ rfl⟩
  refine lv_iinc (lv' := [(1, .int v), (0, .ref l0)]) C.1 C.2.1 hd hh (k := 0) rfl hv hn rfl (fun ls' h' => ?_)
  refine h p e s m args below meth c H locs ls' C ⟨h'.1, h'.2.1, fun i u hi => ?_⟩ hP hD hS hA
  match i, hi with
  | 0, hi => cases hi; exact h'.2.2 (0, .ref l0) (by simp)
  | 1, hi => cases hi; exact h'.2.2 (1, .int v) (by simp)
  | i + 2, hi => simp at hi
end PAF
