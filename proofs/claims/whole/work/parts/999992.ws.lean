/-! the law from its entry -/
abbrev fs11 : List Value := [.null, .null, .null, .null, .null, .null, .null, .null, .null, .long 0]
abbrev fs12 : List Value := [.null, .int 0, .int 0, .int 0, .null, .null, .null, .null, .int 0, .null, .null, .null, .null, .null, .null, .null, .null, .null, .int 0, .int 0, .int 0, .int 0, .int 0, .int 0, .long 0, .null, .int 0, .null, .int 0, .int 0, .int 0, .int 0, .long 0, .int 0, .int 0, .int 0, .int 0, .null, .null, .null, .null, .int 0, .null, .null, .null, .null, .null, .null, .int 0, .int 0, .int 0, .null, .null, .null, .int 0, .null, .null, .null, .null, .null, .int 0, .null, .null, .int 0, .null, .null, .int 0, .null, .int 0, .null, .null, .null, .null, .null, .null, .null, .null, .null, .null, .null, .null, .null, .null]
theorem lw_init {l : Launch} {w : Wo} {Z : Mt} {d mc' ms' ci idx b' b Lq pc : Nat} {xs : Nat → Int32} {fs : List Value} {Res : Nat → va_W → Prop} {wr : va_W} {rest : List Value} {cells slots : Nat} {p : Program} {e : Env} {s : State} {m : MethodId} {below : List Frame} {meth : Method} {c : Code} {H : Heap} {locs : List Loc} {ls : Array Slot} (C0 : lw_At p s m meth c b Lq xs) (hK : KA l w Z d mc' ms' ci fs Res) (hlk : Cond.methodLink R_law idx Z.1 ∈ tb) (hini : Cond.initialized Z.1.cls ∈ tb) (hcode : Cond.code Z.1 Z.2.1 Z.2.2.1 Z.2.2.2 ∈ tb) (hno : Z.1.cls ≠ "java/lang/invoke/MethodHandle" ∧ Z.1.cls ≠ "java/lang/invoke/VarHandle" ∧ (parseMethodDescriptor Z.1.desc).map (fun d => d.parameters.length) = some 0) (hi : Cond.instanceMethod Z.1 ∈ tb) (hy : Z.1.name = "<init>") (hrn : Z.2.2.2 = none) (hls : ls.size = 4) (hP : va_P w.1 vwCl (wr ++ [(b', .inr (ci, fs))]) H) (hD : va_D (fun q => s.heap.size ≤ q) (wr ++ [(b', .inr (ci, fs))])) (hS : va_S (fun q => s.heap.size ≤ q) s.heap H locs) (hKK : va_K w.1 vwCl (tysW w) s) (hN : Nb s) (hAO : va_AO "HeadNets$Net" s) (hf : d + 1 ≤ 2048) (hlo : 8 + (Z.2.2.1 + 11) + 80 * d ≤ 84000) (hc : cells + mc' ≤ 600000) (hs : slots + ms' ≤ 7302250) (hW : (rest.map fun v => v.category).sum ≤ 8) (hd : decode code pc = .ok (.invokespecial idx, 3))
    (kk : ∀ (w1 : va_W) (H1 : Heap) (locs1 : List Loc), Res b' w1 → va_P w.1 vwCl (wr ++ w1) H1 → va_D (fun q => s.heap.size ≤ q) (wr ++ w1) → va_S (fun q => s.heap.size ≤ q) s.heap H1 locs1 → W p l e room_1 s m #[Value.ref b] below meth c H1 locs1 (cells + mc') (slots + ms') (lw_Z below #[Value.ref b] s) (F0 m (pc + 3) ls rest)) : W p l e room_1 s m #[Value.ref b] below meth c H locs cells slots (lw_Z below #[Value.ref b] s) (F0 m pc ls (.ref b' :: rest)) := by
  obtain ⟨hx, hb, hr, hml, hown, hts0, hX, hbl, hlocks, hgv⟩ := id C0
  have hts : ∀ q ∈ tb, q.before #[Value.ref b] s = true := fun q hq => hts0 q (tb_lw q hq)
  have hA : ∀ q, s.heap.size ≤ q → (fun q : Nat => s.heap.size ≤ q) q := fun _ h => h
  have hlast : (wr ++ [(b', Sum.inr (ci, fs))])[wr.length]? = some (b', (Sum.inr (ci, fs) : va_E)) := by rw [List.getElem?_append_right (Nat.le_refl _), Nat.sub_self]; rfl
  have hPc : va_P w.1 vwCl [(b', .inr (ci, fs))] H := hP.sub [wr.length] (by simp [hlast])
  have hDc : va_D (fun q => s.heap.size ≤ q) [(b', .inr (ci, fs))] := hD.sub [wr.length] (by simp [va_nd]) (by simp [hlast])
  have hFc := va_free (wc := [(b', .inr (ci, fs))]) hD hS hA [wr.length] (by simp [hlast])
  have hcode' : Cond.code Z.1 Z.2.1 Z.2.2.1 none ∈ tb := hrn ▸ hcode
  have hM := hK b' H.size
  rw [hrn] at hM
  have hpre : PreS s H (fun av U => av = ([.ref b'] : List Value).toArray ∧ U.heap.size = H.size ∧ va_P w.1 vwCl [(b', .inr (ci, fs))] U.heap ∧ va_D (fun _ => True) [(b', .inr (ci, fs))] ∧ va_K w.1 vwCl (tysW w) U ∧ Nb U ∧ va_AO "HeadNets$Net" U) (.ref b' :: []) := by
    refine ⟨fun a U g mk h => ?_, fun U hU hW => ⟨rfl, by rw [hU], by rw [hU]; exact hPc, hDc.weaken (fun _ _ _ _ => trivial), va_K.moved hW.alike hKK, fun own idx y host hm => va_Nw.warmM hW (hN own idx y host hm), hAO.moved hW.alike⟩⟩
    obtain ⟨h1, h2, h3, h4, h5, h6, h7⟩ := h
    exact ⟨h1, h2, h3, h4, va_K.moved (u := U) (U := U.calling g mk a) (Vm.Alike.refl U.vm) h5, fun own idx y host hm => va_Nw.same rfl (u := U) rfl (h6 own idx y host hm), va_AO.moved (u := U) (U := U.calling g mk a) (Vm.Alike.refl U.vm) h7⟩
  have hR : (rmC d mc' ms').frames + 1 ≤ room_1.frames ∧ 8 + (Z.2.2.1 + 11) + (rmC d mc' ms').locals ≤ room_1.locals := ⟨hf, hlo⟩
  have hrun : va_Run p l e room_1 s m #[Value.ref b] below meth c H locs cells slots mc' ms' (F0 m pc ls (.ref b' :: rest)) rest (QcA w ci fs Res b' H.size ([.ref b'] : List Value).toArray) (va_A [(b', .inr (ci, fs))] H.size) :=
    va_runI (As := []) ⟨hx, hb, hml, hown, hts⟩ hM ⟨callB_of 0 hts (tb_goodIn hcode') rfl rfl rfl (hts _ hini) (hts _ hlk) hno hR, hy, hts _ hi⟩ hpre rfl rfl hls rfl (lv_room hW) hd ⟨hc, hs⟩
  refine va_callv hrun hS (fun q _ h => hFc q h) hFc ?_
  intro u t H1 locs1 ht hvm hw hB hz1 hk1 hS1
  obtain ⟨hP1, hD1⟩ := hB
  rw [ht] at hP1
  obtain ⟨hP2, hD2⟩ := join_last hP hD hk1 hFc hP1 hD1
  exact kk u H1 locs1 hw hP2 hD2 hS1
set_option maxRecDepth 100000 in
theorem whole_start {p : Program} {e : Env} {s : State} {m : MethodId} {below : List Frame} {meth : Method} {c : Code} (l : Launch) {b L : Nat} {xs : Nat → Int32} (hL : L ≤ 3072) (C0 : lw_At p s m meth c b L xs) : W p l e room_1 s m #[Value.ref b] below meth c s.heap [] 0 0 (lw_Z below #[Value.ref b] s) (entryFrame m ([Value.ref b] : List Value).toArray 4) := by
  obtain ⟨D, ty, aS, aV, hK, hN, hAO, hZs⟩ := ent_w C0
  obtain ⟨hx, hb, hr, hml, hown, hts0, hX, hbl, hlocks, hgv⟩ := id C0
  have hts : ∀ q ∈ tb, q.before #[Value.ref b] s = true := fun q hq => hts0 q (tb_lw q hq)
  have hA : ∀ q, s.heap.size ≤ q → (fun q : Nat => s.heap.size ≤ q) q := fun _ h => h
  obtain ⟨F, hF⟩ : ∃ F, 10000 + bnd 40 ≤ F := ⟨_, Nat.le_refl _⟩
  have hK0 := hK (fun _ => 0) false
  have hS : va_S (fun q : Nat => s.heap.size ≤ q) s.heap s.heap [] := va_S.rf
  have hP : va_P D vwCl [] s.heap := fun k q h => by simp at h
  have hD : va_D (fun q : Nat => s.heap.size ≤ q) [] := ⟨fun i j p q h => by simp at h, fun k q h => by simp at h⟩
  have hl := lv_entry ([.ref b]) (n := 4) (Nat.le_of_ble_eq_true rfl)
  rw [lg_entry_eq]
  generalize (lg_sl ([.ref b]) ++ List.replicate (4 - (lg_sl ([.ref b])).length) Slot.unset).toArray = ls at hl ⊢
  have hl : lv_has ls 4 [(0, .ref b)] := hl
  refine va_new hx hb hts cf11.2.1 tyc11 cf11.2.2.1 hown (hts _ en_clh) (hts _ xn_11) (hts _ xi_11) hK0 hP hD hS hA cf11.1 (fs := fs11) df_11 (Nat.le_of_ble_eq_true rfl) (Nat.le_of_ble_eq_true rfl) d_law_0 (fun q1 H1 hP1 hD1 hS1 => ?_)
  refine lv_dup hx hb d_law_3 rfl ?_
  refine lw_init (wr := []) C0 (ka_X11_init l (D, ty, fun _ => 0, false)) ml_X11_init xi_11 xc_11 yn_X11_init xm_11 rfl rfl hl.1 hP1 hD1 hS1 hK0 hN hAO (by decide) (Nat.le_of_ble_eq_true rfl) (Nat.le_of_ble_eq_true rfl) (Nat.le_of_ble_eq_true rfl) (Nat.le_of_ble_eq_true rfl) d_law_4 (fun w1 H2 locs2 hres hP2 hD2 hS2 => ?_)
  obtain ⟨ad, σ, a0, a1, a2, hinit, hPw, hDw⟩ := resC aS aV hres
  have hP3 := hPw _ hP2
  have hD3 := hDw _ hD2
  refine lv_astore_n (lv' := [(1, .ref q1), (0, .ref b)]) hx hb d_law_7 rfl hl (by decide) rfl (fun ls hl => ?_)
  refine va_new hx hb hts cf12.2.1 tyc12 cf12.2.2.1 hown (hts _ en_clm) (hts _ xn_12) (hts _ xi_12) hK0 hP3 hD3 hS2 hA cf12.1 (fs := fs12) df_12 (Nat.le_of_ble_eq_true rfl) (Nat.le_of_ble_eq_true rfl) d_law_8 (fun q2 H4 hP4 hD4 hS4 => ?_)
  refine lv_dup hx hb d_law_11 rfl ?_
  refine lw_init (wr := wsF (D, ty, ad, true) σ 0 shC) C0 (ka_X12_init l (D, ty, fun _ => 0, false)) ml_X12_init xi_12 xc_12 yn_X12_init xm_12 rfl rfl hl.1 hP4 hD4 hS4 hK0 hN hAO (by decide) (Nat.le_of_ble_eq_true rfl) (Nat.le_of_ble_eq_true rfl) (Nat.le_of_ble_eq_true rfl) (Nat.le_of_ble_eq_true rfl) d_law_12 (fun w5 H5 locs5 hres5 hP5 hD5 hS5 => ?_)
  obtain ⟨adm, τ, b0, b1, hinitm⟩ := hres5
  subst b1
  refine lv_astore_n (lv' := [(2, .ref q2), (1, .ref q1), (0, .ref b)]) hx hb d_law_15 rfl hl (by decide) rfl (fun ls hl => ?_)
  refine lv_iconst (v := I 0) hx hb d_law_16 rfl ?_
  refine lv_istore_n (lv' := [(3, .int (I 0)), (2, .ref q2), (1, .ref q1), (0, .ref b)]) hx hb d_law_17 rfl hl (by decide) rfl (fun ls hl => ?_)
  have hge : ∀ q, AW (D, ty, ad, true) shC q → s.heap.size ≤ q := fun q h => ge_AW hD3 h
  subst a0; subst b0
  exact law_loop (F := F) (x1 := ad 0) (wm := (D, ty, adm, false)) hL hF (Nat.le_of_ble_eq_true rfl) (Nat.le_of_ble_eq_true rfl) (L + 1) 0 (D, ty, ad, true) σ τ (by omega) (by omega) (by omega) rfl rfl (sim_start hinit hinitm) p e s m below meth c H5 locs5 ls C0 ⟨rfl, rfl, rfl, hK ad true, hN, hZs ad a1 a2 hge⟩ (L4.of hl (by simp) (by simp) (by simp) (by simp)) hP5 hD5 hS5
