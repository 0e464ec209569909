/-! constructors' contracts, and calls of them -/
def QcA (w : Wo) (ci : Nat) (fs : List Value) (Res : Nat → va_W → Prop) (b sz : Nat) : Array Value → State → Outcome → State → Prop :=
  va_Qv (Res b) (fun w1 t => va_P w.1 vwCl w1 t.heap ∧ va_D (va_A [(b, .inr (ci, fs))] sz) w1) (va_A [(b, .inr (ci, fs))] sz)
def KA (l : Launch) (w : Wo) (Z : Mt) (d mc ms ci : Nat) (fs : List Value) (Res : Nat → va_W → Prop) : Prop :=
  ∀ (b sz : Nat), Met l Z.1 (.code Z.1 Z.2.1 Z.2.2.1 Z.2.2.2 :: tb) (rmC d mc ms)
    (fun av U => av = ([.ref b] : List Value).toArray ∧ U.heap.size = sz ∧ va_P w.1 vwCl [(b, .inr (ci, fs))] U.heap ∧ va_D (fun _ => True) [(b, .inr (ci, fs))] ∧ va_K w.1 vwCl (tysW w) U ∧ Nb U ∧ va_AO "HeadNets$Net" U)
    (QcA w ci fs Res b sz) mc ms (va_A [(b, .inr (ci, fs))] sz)
theorem ka_of {l : Launch} {w : Wo} {Z : Mt} {d mc ms ci : Nat} {fs : List Value} {Res : Nat → va_W → Prop} (hn : plainFor Z.1 = true) (k : Nat) (hk : Z.2.2.1 = k + 1)
    (h : ∀ b sz, PA l w Z (rmC d mc ms) (QcA w ci fs Res b sz) mc ms (va_A [(b, .inr (ci, fs))] sz) 0 (some (.ref b) :: List.replicate k none) [] [(b, .inr (ci, fs))] 0 0) : KA l w Z d mc ms ci fs Res := by
  intro b sz
  refine met_ofW (cc := Z.2.1) (maxL := Z.2.2.1) (ret := Z.2.2.2) hn rfl ?_
  intro p e s m args below meth c s₁ B hml hv
  obtain ⟨rfl, hsz, hP, hD, hK, hN, hAO⟩ := hv
  have hts0 := atoms_spec (ws := .code Z.1 Z.2.1 Z.2.2.1 Z.2.2.2 :: tb) B.pre
  have hcx : CxA w Z p s m (([.ref b] : List Value).toArray) meth c := ⟨B.exec, B.bytes, hml, B.returns, findClass_of_methodNamed B.named, fun q hq => hts0 q (List.mem_cons_of_mem _ hq), B.notSynchronized, hK, hN, (name_of_methodNamed B.named B.method).1, hAO⟩
  have hl := lv_entry ([.ref b] : List Value) (n := Z.2.2.1) (by rw [hk]; show 1 ≤ k + 1; omega)
  rw [lg_entry_eq]
  refine h b sz p e s m _ below meth c s.heap [] _ hcx ⟨hl.1, hl.2.1, fun i v hi => ?_⟩ hP hD.self va_S.rf (fun q hq => Or.inr (by rw [← hsz]; exact hq))
  match i, hi with
  | 0, hi =>
    cases hi
    exact hl.2.2 (0, .ref b) List.mem_cons_self
  | i + 1, hi =>
    rw [List.getElem?_cons_succ] at hi
    have := List.eq_of_mem_replicate (List.mem_of_getElem? hi)
    cases this
theorem join_last {A0 : Nat → Prop} {D : va_G} {cl : List vw_C} {wr w1 : va_W} {b : Nat} {e : va_E} {H H1 : Heap} (hP : va_P D cl (wr ++ [(b, e)]) H) (hD : va_D A0 (wr ++ [(b, e)])) (hk : ∀ q : Nat, q < H.size → ¬ va_A [(b, e)] H.size q → H1[q]? = H[q]?) (hF : ∀ q, va_A [(b, e)] H.size q → A0 q) (hP1 : va_P D cl w1 H1) (hD1 : va_D (va_A [(b, e)] H.size) w1) : va_P D cl (wr ++ w1) H1 ∧ va_D A0 (wr ++ w1) := by
  have hin : ∀ (i : Nat) (q : Nat × va_E), wr[i]? = some q → (wr ++ [(b, e)])[i]? = some q ∧ i < wr.length := fun i q h => by
    have hl := (List.getElem?_eq_some_iff.mp h).1
    exact ⟨by rw [List.getElem?_append_left hl]; exact h, hl⟩
  have hlast : (wr ++ [(b, e)])[wr.length]? = some (b, e) := by rw [List.getElem?_append_right (Nat.le_refl _), Nat.sub_self]; rfl
  have apart : ∀ (i : Nat) (q : Nat × va_E), wr[i]? = some q → q.1 < H.size ∧ ¬ va_A [(b, e)] H.size q.1 := by
    intro i q h
    obtain ⟨h1, h2⟩ := hin i q h
    have hl := (hP i q h1).lt
    refine ⟨hl, ?_⟩
    rintro (⟨k, e', hk'⟩ | hk')
    · have hk0 : k = 0 := by
        have := (List.getElem?_eq_some_iff.mp hk').1
        simp at this
        exact this
      subst hk0
      have hb : b = q.1 := by
        have : some (b, e) = some (q.1, e') := hk'
        injection this with this
        injection this
      have := hD.1 i wr.length q (b, e) h1 hlast hb.symm
      omega
    · omega
  refine ⟨va_P.app (fun i q h => (hP i q (hin i q h).1).kept (hk q.1 (apart i q h).1 (apart i q h).2)) hP1, va_D.app ⟨fun i j x y hi hj hxy => hD.1 i j x y (hin i x hi).1 (hin j y hj).1 hxy, fun i q h => hD.2 i q (hin i q h).1⟩ (hD1.weaken (fun _ q _ h => hF q.1 h)) (fun i j x y hx hy hxy => (apart i x hx).2 (by rw [hxy]; exact hD1.2 j y hy))⟩
section PAI
variable {l : Launch} {w : Wo} {Y Z : Mt} {R : Room} {Qc : Array Value → State → Outcome → State → Prop} {mc ms : Nat} {A : Nat → Prop} {pc pc' : Nat} {L L' : Lo} {st rest : List Value} {ws wr : va_W} {cells slots : Nat}
theorem pa_vret {ci b sz : Nat} {fs : List Value} {Res : Nat → va_W → Prop} (hr : Y.2.2.2 = none) (hq : Res b ws) (h1 : cells ≤ mc) (h2 : slots ≤ ms) (hd : decode Y.2.1 pc = .ok (.return_, 1)) : PA l w Y R (QcA w ci fs Res b sz) mc ms (va_A [(b, .inr (ci, fs))] sz) pc L [] ws cells slots := by
  intro p e s m args below meth c H locs ls X hl hP hD hS hA
  refine W.widen h1 h2 ?_
  exact W.vret X.1 X.2.1 (X.2.2.2.1.trans hr) (fun t ht hW => ⟨⟨ws, rfl, hq, by rw [ht]; exact hP, hD⟩, hS.F ht⟩) hS.2.2 hd (hlocks := X.2.2.2.2.2.2.1)
theorem pa_init {d mc' ms' ci idx b : Nat} {fs : List Value} {Res : Nat → va_W → Prop} (hK : KA l w Z d mc' ms' ci fs Res) (co : CO Y.1.cls idx Z 0) (hi : Cond.instanceMethod Z.1 ∈ tb) (hy : Z.1.name = "<init>") (hrn : Z.2.2.2 = none) (hws : ws = wr ++ [(b, .inr (ci, fs))]) (hf : d + 1 ≤ R.frames) (hlo : 8 + (Z.2.2.1 + 11) + 80 * d ≤ R.locals) (hc : cells + mc' ≤ R.cells) (hs : slots + ms' ≤ R.slots) (hW : (rest.map fun v => v.category).sum ≤ 8) (hd : decode Y.2.1 pc = .ok (.invokespecial idx, 3)) (hp : pc + 3 = pc') (kk : ∀ w1, Res b w1 → PA l w Y R Qc mc ms A pc' L rest (wr ++ w1) (cells + mc') (slots + ms')) : PA l w Y R Qc mc ms A pc L (.ref b :: rest) ws cells slots := by
  subst hp; subst hws
  intro p e s m args below meth c H locs ls X hl hP hD hS hA
  obtain ⟨hx, hb, hml, hrt, hown, hts, hlk, hKK, hN, hnm, hAO⟩ := id X
  obtain ⟨hlink, hini, hcode, hno⟩ := co
  have hlast : (wr ++ [(b, Sum.inr (ci, fs))])[wr.length]? = some (b, (Sum.inr (ci, fs) : va_E)) := by rw [List.getElem?_append_right (Nat.le_refl _), Nat.sub_self]; rfl
  have hPc : va_P w.1 vwCl [(b, .inr (ci, fs))] H := hP.sub [wr.length] (by simp [hlast])
  have hDc : va_D A [(b, .inr (ci, fs))] := hD.sub [wr.length] (by simp [va_nd]) (by simp [hlast])
  have hFc := va_free (wc := [(b, .inr (ci, fs))]) hD hS hA [wr.length] (by simp [hlast])
  have hcode' : Cond.code Z.1 Z.2.1 Z.2.2.1 none ∈ tb := hrn ▸ hcode
  have hM := hK b H.size
  rw [hrn] at hM
  have hpre : PreS s H (fun av U => av = ([.ref b] : List Value).toArray ∧ U.heap.size = H.size ∧ va_P w.1 vwCl [(b, .inr (ci, fs))] U.heap ∧ va_D (fun _ => True) [(b, .inr (ci, fs))] ∧ va_K w.1 vwCl (tysW w) U ∧ Nb U ∧ va_AO "HeadNets$Net" U) (.ref b :: []) := by
    refine ⟨fun a U g mk h => ?_, fun U hU hW => ⟨rfl, by rw [hU], by rw [hU]; exact hPc, hDc.weaken (fun _ _ _ _ => trivial), va_K.moved hW.alike hKK, fun own idx y host hm => va_Nw.warmM hW (hN own idx y host hm), hAO.moved hW.alike⟩⟩
    obtain ⟨h1, h2, h3, h4, h5, h6, h7⟩ := h
    exact ⟨h1, h2, h3, h4, va_K.moved (u := U) (U := U.calling g mk a) (Vm.Alike.refl U.vm) h5, fun own idx y host hm => va_Nw.same rfl (u := U) rfl (h6 own idx y host hm), va_AO.moved (u := U) (U := U.calling g mk a) (Vm.Alike.refl U.vm) h7⟩
  have hR : (rmC d mc' ms').frames + 1 ≤ R.frames ∧ 8 + (Z.2.2.1 + 11) + (rmC d mc' ms').locals ≤ R.locals := ⟨hf, hlo⟩
  have hrun : va_Run p l e R s m args below meth c H locs cells slots mc' ms' (F0 m pc ls (.ref b :: rest)) rest (QcA w ci fs Res b H.size ([.ref b] : List Value).toArray) (va_A [(b, .inr (ci, fs))] H.size) := by
    rcases hlink with hlink | ⟨host, hlink⟩
    · exact va_runI (As := []) ⟨hx, hb, hml, hown, hts⟩ hM ⟨callB_of 0 hts (tb_goodIn hcode') rfl rfl rfl (hts _ hini) (hts _ hlink) hno hR, hy, hts _ hi⟩ hpre rfl rfl hl.1 rfl (lv_room hW) hd ⟨hc, hs⟩
    · exact va_runIN (As := []) ⟨hx, hb, hml, hown, hts⟩ hM ⟨va_cnB 0 hts (tb_goodIn hcode') rfl rfl rfl (hN _ _ _ _ hlink) (hts _ hini) hno hR, hy, hts _ hi⟩ hpre rfl rfl hl.1 rfl (lv_room hW) hd ⟨hc, hs⟩
  refine va_callv hrun hS (fun q _ h => hFc q h) hFc ?_
  intro u t H1 locs1 ht hvm hw hB hz1 hk1 hS1
  obtain ⟨hP1, hD1⟩ := hB
  rw [ht] at hP1
  obtain ⟨hP2, hD2⟩ := join_last hP hD hk1 hFc hP1 hD1
  exact kk u hw p e s m args below meth c H1 locs1 ls X hl hP2 hD2 hS1 hA
end PAI
