section RC
variable {l : Launch} {w : Wo} {S : List Shp} {Y Z : Mt} {d d' : Nat} {pc pc' tgt : Nat} {L L' : Lo} {st rest : List Value} {σ : St} {Post : Array Value → State → Outcome → State → Prop}
theorem pw_iret {v : Int32} (hr : Y.2.2.2 = some .int) (hq : RetP w S Post (some (.int v)) σ) (hd : decode Y.2.1 pc = .ok (.ireturn, 1)) : PW l w S Y d Post pc L [.int v] σ := by
  intro p e s m args below meth c H locs ls X hl hP hD hS
  exact W.iret (v := v) X.1 X.2.1 (X.2.2.2.1.trans hr) (fun t ht hW => hq args s t (by rw [ht]; exact hP) (hS.F ht)) hS.2.2 hd (hlocks := X.2.2.2.2.2.2.1)
theorem pw_zret {v : Int32} (hv : v = 0 ∨ v = 1) (hr : Y.2.2.2 = some .boolean) (hq : RetP w S Post (some (.int v)) σ) (hd : decode Y.2.1 pc = .ok (.ireturn, 1)) : PW l w S Y d Post pc L [.int v] σ := by
  intro p e s m args below meth c H locs ls X hl hP hD hS
  exact W.zret (v := v) X.1 X.2.1 (X.2.2.2.1.trans hr) (by rcases hv with rfl | rfl <;> rfl) (fun t ht hW => hq args s t (by rw [ht]; exact hP) (hS.F ht)) hS.2.2 hd (hlocks := X.2.2.2.2.2.2.1)
theorem pw_lret {v : Int64} (hr : Y.2.2.2 = some .long) (hq : RetP w S Post (some (.long v)) σ) (hd : decode Y.2.1 pc = .ok (.lreturn, 1)) : PW l w S Y d Post pc L [.long v] σ := by
  intro p e s m args below meth c H locs ls X hl hP hD hS
  exact W.lret (v := v) X.1 X.2.1 (X.2.2.2.1.trans hr) (fun t ht hW => hq args s t (by rw [ht]; exact hP) (hS.F ht)) hS.2.2 hd (hlocks := X.2.2.2.2.2.2.1)
theorem pw_vret (hr : Y.2.2.2 = none) (hq : RetP w S Post none σ) (hd : decode Y.2.1 pc = .ok (.return_, 1)) : PW l w S Y d Post pc L [] σ := by
  intro p e s m args below meth c H locs ls X hl hP hD hS
  exact W.vret X.1 X.2.1 (X.2.2.2.1.trans hr) (fun t ht hW => hq args s t (by rw [ht]; exact hP) (hS.F ht)) hS.2.2 hd (hlocks := X.2.2.2.2.2.2.1)
theorem pw_aret {v : Value} {rt : FieldType} (hr : Y.2.2.2 = some rt) (hrt : (∃ n, rt = .object n) ∨ ∃ t, rt = .array t) (hv : v = .null ∨ ∃ a, v = .ref a) (hq : RetP w S Post (some v) σ) (hd : decode Y.2.1 pc = .ok (.areturn, 1)) : PW l w S Y d Post pc L [v] σ := by
  intro p e s m args below meth c H locs ls X hl hP hD hS
  exact W.aret (v := tv w v) X.1 X.2.1 (X.2.2.2.1.trans hr) hrt (by rcases hv with rfl | ⟨a, rfl⟩; exact Or.inl rfl; exact Or.inr ⟨_, rfl⟩) (fun t ht hW => hq args s t (by rw [ht]; exact hP) (hS.F ht)) hS.2.2 hd (hlocks := X.2.2.2.2.2.2.1)
/-- two ways on -/
def Br (l : Launch) (w : Wo) (S : List Shp) (Y : Mt) (d : Nat) (c : Prop) (pc : Nat) (L : Lo) (st0 : List Value) (σ : St) (pcT pcF : Nat) (st : List Value) : Prop :=
  ∀ Post, (c → PW l w S Y d Post pcT L st σ) → (¬ c → PW l w S Y d Post pcF L st σ) → PW l w S Y d Post pc L st0 σ
theorem br_icmp_ge {x y : Int32} {off : Int} (hd : decode Y.2.1 pc = .ok (.if_icmp .ge off, 3)) (ht : (pc : Int) + off = (tgt : Int)) (hp : pc + 3 = pc') : Br l w S Y d (x < y) pc L (.int y :: .int x :: st) σ pc' tgt st := by
  subst hp
  intro Post h1 h2 p e s m args below meth c H locs ls C hl hP hD hS
  exact lv_icmp_ge C.1 C.2.1 hd ht (fun q => h2 (Int32.not_lt.mpr q) p e s m args below meth c H locs ls C hl hP hD hS) (fun q => h1 (Int32.not_le.mp q) p e s m args below meth c H locs ls C hl hP hD hS)
theorem br_icmp_lt {x y : Int32} {off : Int} (hd : decode Y.2.1 pc = .ok (.if_icmp .lt off, 3)) (ht : (pc : Int) + off = (tgt : Int)) (hp : pc + 3 = pc') : Br l w S Y d (y ≤ x) pc L (.int y :: .int x :: st) σ pc' tgt st := by
  subst hp
  intro Post h1 h2 p e s m args below meth c H locs ls C hl hP hD hS
  exact lv_icmp_lt C.1 C.2.1 hd ht (fun q => h2 (Int32.not_le.mpr q) p e s m args below meth c H locs ls C hl hP hD hS) (fun q => h1 (Int32.not_lt.mp q) p e s m args below meth c H locs ls C hl hP hD hS)
theorem br_icmp_gt {x y : Int32} {off : Int} (hd : decode Y.2.1 pc = .ok (.if_icmp .gt off, 3)) (ht : (pc : Int) + off = (tgt : Int)) (hp : pc + 3 = pc') : Br l w S Y d (x ≤ y) pc L (.int y :: .int x :: st) σ pc' tgt st := by
  subst hp
  intro Post h1 h2 p e s m args below meth c H locs ls C hl hP hD hS
  exact lv_icmp_gt C.1 C.2.1 hd ht (fun q => h2 (Int32.not_le.mpr q) p e s m args below meth c H locs ls C hl hP hD hS) (fun q => h1 (Int32.not_lt.mp q) p e s m args below meth c H locs ls C hl hP hD hS)
theorem br_icmp_le {x y : Int32} {off : Int} (hd : decode Y.2.1 pc = .ok (.if_icmp .le off, 3)) (ht : (pc : Int) + off = (tgt : Int)) (hp : pc + 3 = pc') : Br l w S Y d (y < x) pc L (.int y :: .int x :: st) σ pc' tgt st := by
  subst hp
  intro Post h1 h2 p e s m args below meth c H locs ls C hl hP hD hS
  exact lv_icmp_le C.1 C.2.1 hd ht (fun q => h2 (Int32.not_lt.mpr q) p e s m args below meth c H locs ls C hl hP hD hS) (fun q => h1 (Int32.not_le.mp q) p e s m args below meth c H locs ls C hl hP hD hS)
theorem br_icmp_ne {x y : Int32} {off : Int} (hd : decode Y.2.1 pc = .ok (.if_icmp .ne off, 3)) (ht : (pc : Int) + off = (tgt : Int)) (hp : pc + 3 = pc') : Br l w S Y d (x = y) pc L (.int y :: .int x :: st) σ pc' tgt st := by
  subst hp
  intro Post h1 h2 p e s m args below meth c H locs ls C hl hP hD hS
  exact lv_icmp_ne C.1 C.2.1 hd ht (fun q => h2 q p e s m args below meth c H locs ls C hl hP hD hS) (fun q => h1 q p e s m args below meth c H locs ls C hl hP hD hS)
/-- jumps where they are equal: the first way is the jump -/
theorem br_icmp_eq {x y : Int32} {off : Int} (hd : decode Y.2.1 pc = .ok (.if_icmp .eq off, 3)) (ht : (pc : Int) + off = (tgt : Int)) (hp : pc + 3 = pc') : Br l w S Y d (x = y) pc L (.int y :: .int x :: st) σ tgt pc' st := by
  subst hp
  intro Post h1 h2 p e s m args below meth c H locs ls C hl hP hD hS
  exact lv_icmp_eq C.1 C.2.1 hd ht (fun q => h1 q p e s m args below meth c H locs ls C hl hP hD hS) (fun q => h2 q p e s m args below meth c H locs ls C hl hP hD hS)
theorem br_if_ge {x : Int32} {off : Int} (hd : decode Y.2.1 pc = .ok (.ifCond .ge off, 3)) (ht : (pc : Int) + off = (tgt : Int)) (hp : pc + 3 = pc') : Br l w S Y d (x < 0) pc L (.int x :: st) σ pc' tgt st := by
  subst hp
  intro Post h1 h2 p e s m args below meth c H locs ls C hl hP hD hS
  exact lv_if_ge C.1 C.2.1 hd ht (fun q => h2 (Int32.not_lt.mpr q) p e s m args below meth c H locs ls C hl hP hD hS) (fun q => h1 (Int32.not_le.mp q) p e s m args below meth c H locs ls C hl hP hD hS)
theorem br_if_lt {x : Int32} {off : Int} (hd : decode Y.2.1 pc = .ok (.ifCond .lt off, 3)) (ht : (pc : Int) + off = (tgt : Int)) (hp : pc + 3 = pc') : Br l w S Y d (0 ≤ x) pc L (.int x :: st) σ pc' tgt st := by
  subst hp
  intro Post h1 h2 p e s m args below meth c H locs ls C hl hP hD hS
  exact lv_if_lt C.1 C.2.1 hd ht (fun q => h2 (Int32.not_le.mpr q) p e s m args below meth c H locs ls C hl hP hD hS) (fun q => h1 (Int32.not_lt.mp q) p e s m args below meth c H locs ls C hl hP hD hS)
theorem br_if_gt {x : Int32} {off : Int} (hd : decode Y.2.1 pc = .ok (.ifCond .gt off, 3)) (ht : (pc : Int) + off = (tgt : Int)) (hp : pc + 3 = pc') : Br l w S Y d (x ≤ 0) pc L (.int x :: st) σ pc' tgt st := by
  subst hp
  intro Post h1 h2 p e s m args below meth c H locs ls C hl hP hD hS
  exact lv_if_gt C.1 C.2.1 hd ht (fun q => h2 (Int32.not_le.mpr q) p e s m args below meth c H locs ls C hl hP hD hS) (fun q => h1 (Int32.not_lt.mp q) p e s m args below meth c H locs ls C hl hP hD hS)
theorem br_if_le {x : Int32} {off : Int} (hd : decode Y.2.1 pc = .ok (.ifCond .le off, 3)) (ht : (pc : Int) + off = (tgt : Int)) (hp : pc + 3 = pc') : Br l w S Y d (0 < x) pc L (.int x :: st) σ pc' tgt st := by
  subst hp
  intro Post h1 h2 p e s m args below meth c H locs ls C hl hP hD hS
  exact lv_if_le C.1 C.2.1 hd ht (fun q => h2 (Int32.not_lt.mpr q) p e s m args below meth c H locs ls C hl hP hD hS) (fun q => h1 (Int32.not_le.mp q) p e s m args below meth c H locs ls C hl hP hD hS)
theorem br_if_ne {x : Int32} {off : Int} (hd : decode Y.2.1 pc = .ok (.ifCond .ne off, 3)) (ht : (pc : Int) + off = (tgt : Int)) (hp : pc + 3 = pc') : Br l w S Y d (x = 0) pc L (.int x :: st) σ pc' tgt st := by
  subst hp
  intro Post h1 h2 p e s m args below meth c H locs ls C hl hP hD hS
  exact lv_if_ne C.1 C.2.1 hd ht (fun q => h2 q p e s m args below meth c H locs ls C hl hP hD hS) (fun q => h1 q p e s m args below meth c H locs ls C hl hP hD hS)
theorem br_if_eq {x : Int32} {off : Int} (hd : decode Y.2.1 pc = .ok (.ifCond .eq off, 3)) (ht : (pc : Int) + off = (tgt : Int)) (hp : pc + 3 = pc') : Br l w S Y d (x = 0) pc L (.int x :: st) σ tgt pc' st := by
  subst hp
  intro Post h1 h2 p e s m args below meth c H locs ls C hl hP hD hS
  exact lv_if_eq C.1 C.2.1 hd ht (fun q => h1 q p e s m args below meth c H locs ls C hl hP hD hS) (fun q => h2 q p e s m args below meth c H locs ls C hl hP hD hS)
/-! calls -/
def CO (own : String) (idx : Nat) (Z : Mt) (n : Nat) : Prop :=
  (Cond.methodLink own idx Z.1 ∈ tb ∨ ∃ host, Cond.methodLinkNest own idx Z.1 host ∈ tables_1) ∧ Cond.initialized Z.1.cls ∈ tb ∧ Cond.code Z.1 Z.2.1 Z.2.2.1 Z.2.2.2 ∈ tb ∧ (Z.1.cls ≠ "java/lang/invoke/MethodHandle" ∧ Z.1.cls ≠ "java/lang/invoke/VarHandle" ∧ (parseMethodDescriptor Z.1.desc).map (fun d => d.parameters.length) = some n)
theorem tb_goodIn {c : Cond} (h : c ∈ tb) : GoodIn tb (c :: tb) := fun w hw => by
  rcases List.mem_cons.mp hw with rfl | hw
  · exact ⟨h, tb_good _ h⟩
  · exact ⟨hw, tb_good _ hw⟩
theorem Zs.moved {s U : State} {H : Heap} {locs : List Loc} (h : Zs w S s) (hS : va_S (AW w S) s.heap H locs) (hU : U.heap = H) (hW : s.WarmedH U.vm) : Zs w S U := by
  intro hf
  obtain ⟨h1, h2, h3⟩ := h hf
  refine ⟨h1.warm hW, ?_, ?_⟩
  · rw [hU]
    exact (h2.kept hS.2.1).moved hW.alike
  · rw [hU]
    exact (h3.kept hS.2.1).moved hW.alike
theorem WoAt.blind (As : List Value) : FrameBlind (fun av U => av = (As.map (tv w)).toArray ∧ WoAt w S σ U) := by
  intro a U g mk h
  obtain ⟨h1, h2, h3, h4, h5, h6⟩ := h
  refine ⟨h1, h2, h3, va_K.moved (u := U) (U := U.calling g mk a) (Vm.Alike.refl U.vm) h4, fun own idx y host hm => va_Nw.same rfl (u := U) rfl (h5 own idx y host hm), fun hf => ?_⟩
  obtain ⟨k1, k2, k3⟩ := h6 hf
  exact ⟨k1.same rfl, vk_S.moved (u := U) (U := U.calling g mk a) (Vm.Alike.refl U.vm) k2, va_Z.moved (u := U) (U := U.calling g mk a) (Vm.Alike.refl U.vm) k3⟩
theorem WoAt.at {s U : State} {H : Heap} {locs : List Loc} (hK : va_K w.1 vwCl (tysW w) s) (hN : Nb s) (hZ : Zs w S s) (hP : va_P w.1 vwCl (wsF w σ 0 S) H) (hD : va_D (AW w S) (wsF w σ 0 S)) (hS : va_S (AW w S) s.heap H locs) (hU : U.heap = H) (hW : s.WarmedH U.vm) : WoAt w S σ U :=
  ⟨by rw [hU]; exact hP, hD, va_K.moved hW.alike hK, fun own idx y host hm => va_Nw.warmM hW (hN own idx y host hm), hZ.moved hS hU hW⟩
/-- behind a call -/
theorem pw_back {Q : Option Value → St → Prop} {p : Program} {e : Env} {s : State} {m : MethodId} {args a' : Array Value} {below : List Frame} {meth : Method} {c : Code} {H : Heap} {locs : List Loc} {ls : Array Slot} {st0 : List Value} (X : Cx w S Y p s m args meth c) (hl : lvL w ls Y.2.2.1 L) (hD : ∀ τ, va_D (AW w S) (wsF w τ 0 S)) (hS : va_S (AW w S) s.heap H locs)
    (hr : va_Run p l e (rmD d) s m args below meth c H locs 0 0 0 0 (F0 m pc ls st0) (rest.map (tv w)) (QcP w S Q a') (AW w S)) (kk : ∀ r τ, Q r τ → PW l w S Y d Post (pc + 3) L (r.toList ++ rest) τ) :
    W p l e (rmD d) s m args below meth c H locs 0 0 (MQ below Post args s 0 0 (AW w S)) (F0 m pc ls st0) := by
  intro T hT XX
  obtain ⟨v, st₀, t, T', Lc, h0, X', hL, e1, e2, ⟨⟨r, τ, hv, hq, hPt⟩, hz, hk⟩, stp⟩ := hr T hT XX
  have hv' : v = r.map (tv w) := Outcome.returned.inj hv
  subst hv'
  rw [h0] at hz hk
  have hS1 : va_S (AW w S) s.heap T'.heap (locs ++ Lc) := ⟨Nat.le_trans hS.1 (by rw [e1]; exact hz), fun q h1 h2 => by rw [e1, hk q (Nat.lt_of_lt_of_le h1 hS.1) h2]; exact hS.2.1 q h1 h2, fun q hq => by
    rcases List.mem_append.mp hq with h | h
    · exact hS.2.2 q h
    · exact hL q h⟩
  have hst : ((r.toList ++ rest).map (tv w)) = (r.map (tv w)).toList ++ rest.map (tv w) := by cases r <;> rfl
  have key := kk r τ hq p e s m args below meth c T'.heap (locs ++ Lc) ls X hl (by rw [e1]; exact hPt) (hD τ) hS1
  rw [hst] at key
  obtain ⟨t2, a1, b1⟩ := key T' rfl X'
  exact ⟨t2, stp t2 a1, b1⟩
theorem va_D_any {τ : St} (hD : va_D (AW w S) (wsF w σ 0 S)) : va_D (AW w S) (wsF w τ 0 S) := by
  have key : ∀ (i : Nat) (q : Nat × va_E), (wsF w τ 0 S)[i]? = some q → ∃ q0, (wsF w σ 0 S)[i]? = some q0 ∧ q0.1 = q.1 := by
    intro i q h
    rw [wsF_get] at h
    cases hs : S[i]? with
    | none => rw [hs] at h; cases h
    | some sh =>
      rw [hs] at h
      simp only [Option.map_some, Nat.zero_add, Option.some.injEq] at h
      refine ⟨_, wsF_at hs, ?_⟩
      rw [← h]
  refine ⟨fun i j x y hi hj hxy => ?_, fun k q hk => ?_⟩
  · obtain ⟨x0, h1, h2⟩ := key i x hi
    obtain ⟨y0, h3, h4⟩ := key j y hj
    exact hD.1 i j x0 y0 h1 h3 (h2.trans (hxy.trans h4.symm))
  · obtain ⟨q0, h1, h2⟩ := key k q hk
    rw [← h2]
    exact hD.2 k q0 h1
theorem pw_callV {Q : Option Value → St → Prop} {As : List Value} {a idx n ci N : Nat} {C : String} {T : u_T} {ty : Nat → FieldType} {fl : List (Nat × Nat)} {st0 : List Value} (hc : CT l w S Z d' (.ref a :: As) σ Q) (co : CO Y.1.cls idx Z n) (hi : Cond.instanceMethod Z.1 ∈ tb) (hsel : Cond.selects Z.1.cls Z.1 Z.1 ∈ tb) (cf : CF ci C T N ty) (hC : C = Z.1.cls) (hs : S[a]? = some (.inr (ci, fl))) (hdd : d' + 1 ≤ d) (hm : Z.2.2.1 ≤ 60) (hn : As.length = n) (hst : As.reverse ++ .ref a :: rest = st0) (hW : (rest.map fun v => v.category).sum ≤ 8) (hd : decode Y.2.1 pc = .ok (.invokevirtual idx, 3))
    (kk : ∀ r τ, Q r τ → PW l w S Y d Post (pc + 3) L (r.toList ++ rest) τ) : PW l w S Y d Post pc L st0 σ := by
  subst hst
  intro p e s m args below meth c H locs ls X hl hP hD hS
  obtain ⟨hx, hb, hml, hrt, hown, hts, hlk, hK, hN, hZ⟩ := id X
  obtain ⟨hlink, hini, hcode, hno⟩ := co
  have hR : (rmD d').frames + 1 ≤ (rmD d).frames ∧ 8 + (Z.2.2.1 + 11) + (rmD d').locals ≤ (rmD d).locals := ⟨hdd, by show 8 + (Z.2.2.1 + 11) + 80 * d' ≤ 80 * d; omega⟩
  have hWw : ((rest.map (tv w)).map fun v => v.category).sum ≤ 8 := by
    rw [List.map_map]
    have : ((fun v => Value.category v) ∘ tv w) = fun v => v.category := funext (tv_cat w)
    rw [this]
    exact hW
  have hstk : ((As.reverse ++ .ref a :: rest).map (tv w)) = (As.map (tv w)).reverse ++ .ref (w.2.2.1 a) :: rest.map (tv w) := by
    rw [List.map_append, List.map_reverse]
    rfl
  have hrecv : ∃ cell : Cell, H[w.2.2.1 a]? = some cell ∧ cell.vm.isStatics = false ∧ s.vm.findClass Z.1.cls = some cell.cls := by
    rw [← hC]
    exact va_recv hK hP cf.1 (wsF_at hs)
  have hpre : PreV s H Z.1.cls (w.2.2.1 a) (fun av U => av = ((Value.ref a :: As).map (tv w)).toArray ∧ WoAt w S σ U) (As.map (tv w)) := ⟨WoAt.blind _, hrecv, fun U hU hW => ⟨rfl, WoAt.at hK hN hZ hP hD hS hU hW⟩⟩
  rw [hstk]
  refine pw_back (a' := (Value.ref (w.2.2.1 a) :: As.map (tv w)).toArray) X hl (fun τ => va_D_any hD) hS ?_ kk
  rcases hlink with hlink | ⟨host, hlink⟩
  · exact va_runV ⟨hx, hb, hml, hown, hts⟩ hc ⟨callB_of n hts (tb_goodIn hcode) rfl rfl rfl (hts _ hini) (hts _ hlink) hno hR, hts _ hi, hts _ hsel⟩ hpre rfl (by rw [List.length_map]; exact hn) hl.1 rfl (lv_room hWw) hd ⟨Nat.le_refl _, Nat.le_refl _⟩
  · exact va_runVN ⟨hx, hb, hml, hown, hts⟩ hc ⟨va_cnB n hts (tb_goodIn hcode) rfl rfl rfl (hN _ _ _ _ hlink) (hts _ hini) hno hR, hts _ hi, hts _ hsel⟩ hpre rfl (by rw [List.length_map]; exact hn) hl.1 rfl (lv_room hWw) hd ⟨Nat.le_refl _, Nat.le_refl _⟩
theorem pw_callS {Q : Option Value → St → Prop} {As : List Value} {idx n : Nat} {st0 : List Value} (hc : CT l w S Z d' As σ Q) (co : CO Y.1.cls idx Z n) (hi : Cond.static Z.1 ∈ tb) (hdd : d' + 1 ≤ d) (hm : Z.2.2.1 ≤ 60) (hn : As.length = n) (hst : As.reverse ++ rest = st0) (hW : (rest.map fun v => v.category).sum ≤ 8) (hd : decode Y.2.1 pc = .ok (.invokestatic idx, 3))
    (kk : ∀ r τ, Q r τ → PW l w S Y d Post (pc + 3) L (r.toList ++ rest) τ) : PW l w S Y d Post pc L st0 σ := by
  subst hst
  intro p e s m args below meth c H locs ls X hl hP hD hS
  obtain ⟨hx, hb, hml, hrt, hown, hts, hlk, hK, hN, hZ⟩ := id X
  obtain ⟨hlink, hini, hcode, hno⟩ := co
  have hR : (rmD d').frames + 1 ≤ (rmD d).frames ∧ 8 + (Z.2.2.1 + 11) + (rmD d').locals ≤ (rmD d).locals := ⟨hdd, by show 8 + (Z.2.2.1 + 11) + 80 * d' ≤ 80 * d; omega⟩
  have hWw : ((rest.map (tv w)).map fun v => v.category).sum ≤ 8 := by
    rw [List.map_map]
    have : ((fun v => Value.category v) ∘ tv w) = fun v => v.category := funext (tv_cat w)
    rw [this]
    exact hW
  have hstk : ((As.reverse ++ rest).map (tv w)) = (As.map (tv w)).reverse ++ rest.map (tv w) := by
    rw [List.map_append, List.map_reverse]
  have hpre : PreS s H (fun av U => av = (As.map (tv w)).toArray ∧ WoAt w S σ U) (As.map (tv w)) := ⟨WoAt.blind _, fun U hU hW => ⟨rfl, WoAt.at hK hN hZ hP hD hS hU hW⟩⟩
  rw [hstk]
  refine pw_back (a' := (As.map (tv w)).toArray) X hl (fun τ => va_D_any hD) hS ?_ kk
  rcases hlink with hlink | ⟨host, hlink⟩
  · exact va_runS ⟨hx, hb, hml, hown, hts⟩ hc ⟨callB_of n hts (tb_goodIn hcode) rfl rfl rfl (hts _ hini) (hts _ hlink) hno hR, hts _ hi⟩ hpre rfl (by rw [List.length_map]; exact hn) hl.1 rfl (lv_room hWw) hd ⟨Nat.le_refl _, Nat.le_refl _⟩
  · exact va_runSN ⟨hx, hb, hml, hown, hts⟩ hc ⟨va_cnB n hts (tb_goodIn hcode) rfl rfl rfl (hN _ _ _ _ hlink) (hts _ hini) hno hR, hts _ hi, trivial⟩ hpre rfl (by rw [List.length_map]; exact hn) hl.1 rfl (lv_room hWw) hd ⟨Nat.le_refl _, Nat.le_refl _⟩
end RC
