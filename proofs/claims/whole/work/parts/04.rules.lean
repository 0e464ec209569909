/-! a method's run over a world -/
abbrev Mt : Type := MethodName × ByteArray × Nat × Option FieldType
def tysW (w : Wo) : List (ClassId × FieldType) := [(w.2.1 0, .int), (w.2.1 1, .long), (w.2.1 2, .byte), (w.2.1 3, .boolean), (w.2.1 4, .object "HeadNets$Net")]
def AW (w : Wo) (S : List Shp) : Nat → Prop := fun q => ∃ k, k < S.length ∧ q = w.2.2.1 k
def rmD (d : Nat) : Room := { frames := d, cells := 0, slots := 0, locals := 80 * d }
def Nb (U : State) : Prop := ∀ own idx y host, Cond.methodLinkNest own idx y host ∈ tables_1 → va_Nw (.methodLinkNest own idx y host) U
def Zs (w : Wo) (S : List Shp) (U : State) : Prop := w.2.2.2 = true → vk_R "HeadNets$Tape" 70 "(),=;+-:" (w.2.2.1 9999) U ∧ vk_S 1 [8] [[40, 41, 44, 61, 59, 43, 45, 58]] (fun _ => w.2.2.1 9999) (fun _ => w.2.2.1 9998) (AW w S) U U.heap ∧ va_Z "java/lang/String" "COMPACT_STRINGS" "Z" (.int 1) (AW w S) U U.heap
def Cx (w : Wo) (S : List Shp) (Y : Mt) (p : Program) (s : State) (m : MethodId) (args : Array Value) (meth : Method) (c : Code) : Prop :=
  p.tables.exec = Jvm.exec ∧ c.code = Y.2.1 ∧ c.maxLocals = Y.2.2.1 ∧ meth.sig.returnType = Y.2.2.2 ∧ s.vm.findClass Y.1.cls = some m.cls ∧ (∀ q ∈ tb, q.before args s = true) ∧ meth.locks = false ∧ va_K w.1 vwCl (tysW w) s ∧ Nb s ∧ Zs w S s
def QcP (w : Wo) (S : List Shp) (Post : Option Value → St → Prop) : Array Value → State → Outcome → State → Prop := fun _ st oc t => (∃ (r : Option Value) (σ' : St), oc = .returned (r.map (tv w)) ∧ Post r σ' ∧ va_P w.1 vwCl (wsF w σ' 0 S) t.heap) ∧ va_F (AW w S) st t
def PW (l : Launch) (w : Wo) (S : List Shp) (Y : Mt) (d : Nat) (Post : Array Value → State → Outcome → State → Prop) (pc : Nat) (L : Lo) (st : List Value) (σ : St) : Prop :=
  ∀ (p : Program) (e : Env) (s : State) (m : MethodId) (args : Array Value) (below : List Frame) (meth : Method) (c : Code) (H : Heap) (locs : List Loc) (ls : Array Slot),
    Cx w S Y p s m args meth c → lvL w ls Y.2.2.1 L → va_P w.1 vwCl (wsF w σ 0 S) H → va_D (AW w S) (wsF w σ 0 S) → va_S (AW w S) s.heap H locs →
    W p l e (rmD d) s m args below meth c H locs 0 0 (MQ below Post args s 0 0 (AW w S)) (F0 m pc ls (st.map (tv w)))
/-- what a return with this answer in this state must give -/
def RetP (w : Wo) (S : List Shp) (Post : Array Value → State → Outcome → State → Prop) (r : Option Value) (σ : St) : Prop := ∀ (args : Array Value) (s t : State), va_P w.1 vwCl (wsF w σ 0 S) t.heap → va_F (AW w S) s t → Post args s (.returned (r.map (tv w))) t
theorem RetP.of {w : Wo} {S : List Shp} {Post : Option Value → St → Prop} {r : Option Value} {σ : St} (h : Post r σ) : RetP w S (QcP w S Post) r σ := fun _ _ _ hP hF => ⟨⟨r, σ, rfl, h, hP⟩, hF⟩
def WoAt (w : Wo) (S : List Shp) (σ : St) (U : State) : Prop := va_P w.1 vwCl (wsF w σ 0 S) U.heap ∧ va_D (AW w S) (wsF w σ 0 S) ∧ va_K w.1 vwCl (tysW w) U ∧ Nb U ∧ Zs w S U
/-- the contract of a method at some arguments and a state -/
def CT (l : Launch) (w : Wo) (S : List Shp) (Y : Mt) (d : Nat) (As : List Value) (σ : St) (Post : Option Value → St → Prop) : Prop :=
  Met l Y.1 (.code Y.1 Y.2.1 Y.2.2.1 Y.2.2.2 :: tb) (rmD d) (fun av U => av = (As.map (tv w)).toArray ∧ WoAt w S σ U) (QcP w S Post) 0 0 (AW w S)
def aL : List Value → Lo
  | [] => []
  | v :: r => if v.category = 2 then some v :: none :: aL r else some v :: aL r
theorem aL_args {w : Wo} : ∀ (As : List Value) (b i : Nat) (v : Value), (aL As)[i]? = some (some v) → (b + i, tv w v) ∈ lv_args b (As.map (tv w))
  | [], b, i, v, h => by simp [aL] at h
  | u :: r, b, i, v, h => by
    rw [List.map_cons, lv_args, tv_cat]
    unfold aL at h
    split at h
    · rename_i hc
      match i, h with
      | 0, h =>
        simp at h
        subst h
        exact List.mem_cons_self
      | 1, h => simp at h
      | i + 2, h =>
        have h' : (aL r)[i]? = some (some v) := by simpa using h
        rw [if_pos hc]
        have := aL_args (w := w) r (b + 2) i v h'
        rw [show b + 2 + i = b + (i + 2) by omega] at this
        exact List.mem_cons_of_mem _ this
    · rename_i hc
      match i, h with
      | 0, h =>
        simp at h
        subst h
        exact List.mem_cons_self
      | i + 1, h =>
        have h' : (aL r)[i]? = some (some v) := by simpa using h
        rw [if_neg hc]
        have := aL_args (w := w) r (b + 1) i v h'
        rw [show b + 1 + i = b + (i + 1) by omega] at this
        exact List.mem_cons_of_mem _ this
theorem met_ofW {l : Launch} {y : MethodName} {ws ws' : List Cond} {rm : Room} {Pc : Array Value → State → Prop} {Qc : Array Value → State → Outcome → State → Prop} {mc ms : Nat} {free : Addr → Prop} {cc : ByteArray} {maxL : Nat} {ret : Option FieldType}
    (hy : plainFor y = true) (hw : ws = Cond.code y cc maxL ret :: ws')
    (body : ∀ p e s m args below meth c s₁, BodyLoose p l y (headSpec ws rm) cc maxL ret e s m args below meth c s₁ → c.maxLocals = maxL → Pc args s →
      W p l e (headSpec ws rm).room s m args below meth c s.heap [] 0 0 (MQ below Qc args s mc ms free) (entryFrame m args maxL)) : Met l y ws rm Pc Qc mc ms free := by
  refine MetFree.of_bodySF (code := cc) (maxLocals := maxL) (ret := ret) hy ?_ ?_
  · intro args s m h hn
    obtain ⟨meth, c, h1, h2, h3, h4, h5, h6, -, -⟩ := Cond.code_spec hn (atoms_spec (ws := ws) h _ (by rw [hw]; exact List.mem_cons_self))
    exact ⟨meth, c, h1, h2, h3, h4, h5, h6⟩
  · intro p e s m args below meth c s₁ B hml hP _
    have hh0 : s₁.heap = s.heap := by rw [B.state]; rfl
    obtain ⟨t, a1, o, b1, b2, b3⟩ := body p e s m args below meth c s₁ B hml hP s₁ hh0 (Stand.of_body B)
    exact ⟨t, o, a1, b1, b2, ⟨b3.1, b3.2⟩⟩
theorem ct_of {l : Launch} {w : Wo} {S : List Shp} {Y : Mt} {d : Nat} {As : List Value} {σ : St} {Post : Option Value → St → Prop} {L : Lo} (hn : plainFor Y.1 = true) (n : Nat) (hL : aL As ++ List.replicate n none = L) (hlen : (lg_sl (As.map (tv w))).length ≤ Y.2.2.1) (h : PW l w S Y d (QcP w S Post) 0 L [] σ) : CT l w S Y d As σ Post := by
  refine met_ofW (cc := Y.2.1) (maxL := Y.2.2.1) (ret := Y.2.2.2) hn rfl ?_
  intro p e s m args below meth c s₁ B hml hv
  obtain ⟨rfl, hP, hD, hK, hN, hZ⟩ := hv
  have hts0 := atoms_spec (ws := .code Y.1 Y.2.1 Y.2.2.1 Y.2.2.2 :: tb) B.pre
  have hcx : Cx w S Y p s m ((As.map (tv w)).toArray) meth c := ⟨B.exec, B.bytes, hml, B.returns, findClass_of_methodNamed B.named, fun q hq => hts0 q (List.mem_cons_of_mem _ hq), B.notSynchronized, hK, hN, hZ⟩
  have hl := lv_entry (As.map (tv w)) (n := Y.2.2.1) hlen
  rw [lg_entry_eq]
  refine h p e s m _ below meth c s.heap [] _ hcx ⟨hl.1, hl.2.1, fun i v hi => ?_⟩ hP hD va_S.rf
  rw [← hL] at hi
  have hi' : (aL As)[i]? = some (some v) := by
    by_cases hlt : i < (aL As).length
    · rw [List.getElem?_append_left hlt] at hi
      exact hi
    · rw [List.getElem?_append_right (by omega)] at hi
      have := List.eq_of_mem_replicate (List.mem_of_getElem? hi)
      cases this
  have := aL_args (w := w) As 0 i v hi'
  rw [Nat.zero_add] at this
  exact hl.2.2 _ this
/-- from one point of a method to another -/
def Go (l : Launch) (w : Wo) (S : List Shp) (Y : Mt) (d : Nat) (pc : Nat) (L : Lo) (st : List Value) (σ : St) (pc' : Nat) (L' : Lo) (st' : List Value) (σ' : St) : Prop :=
  ∀ Post, PW l w S Y d Post pc' L' st' σ' → PW l w S Y d Post pc L st σ
section RU
variable {l : Launch} {w : Wo} {S : List Shp} {Y : Mt} {d : Nat} {pc pc' : Nat} {L L' : Lo} {st : List Value} {σ : St}
theorem go_iconst {n : Int} {v : Int32} (hd : decode Y.2.1 pc = .ok (.iconst n, 1)) (hv : Int32.ofInt n = v) (hp : pc + 1 = pc') : Go l w S Y d pc L st σ pc' L (.int v :: st) σ := by
  subst hp
  intro Post h p e s m args below meth c H locs ls C hl hP hD hS
  exact lv_iconst C.1 C.2.1 hd hv (h p e s m args below meth c H locs ls C hl hP hD hS)
theorem go_bipush {n : Int} {v : Int32} (hd : decode Y.2.1 pc = .ok (.bipush n, 2)) (hv : (Int8.ofInt n).toInt32 = v) (hp : pc + 2 = pc') : Go l w S Y d pc L st σ pc' L (.int v :: st) σ := by
  subst hp
  intro Post h p e s m args below meth c H locs ls C hl hP hD hS
  exact lv_bipush C.1 C.2.1 hd hv (h p e s m args below meth c H locs ls C hl hP hD hS)
theorem go_sipush {n : Int} {v : Int32} (hd : decode Y.2.1 pc = .ok (.sipush n, 3)) (hv : (Int16.ofInt n).toInt32 = v) (hp : pc + 3 = pc') : Go l w S Y d pc L st σ pc' L (.int v :: st) σ := by
  subst hp
  intro Post h p e s m args below meth c H locs ls C hl hP hD hS
  exact lv_sipush C.1 C.2.1 hd hv (h p e s m args below meth c H locs ls C hl hP hD hS)
theorem go_lconst {n : Fin 2} {v : Int64} (hd : decode Y.2.1 pc = .ok (.lconst n, 1)) (hv : Int64.ofNat (n : Nat) = v) (hp : pc + 1 = pc') : Go l w S Y d pc L st σ pc' L (.long v :: st) σ := by
  subst hp
  intro Post h p e s m args below meth c H locs ls C hl hP hD hS
  exact lv_lconst C.1 C.2.1 hd hv (h p e s m args below meth c H locs ls C hl hP hD hS)
theorem go_ldc2 {i : Nat} {v : Int64} (hw : Cond.constantLong Y.1.cls i v ∈ tb) (hd : decode Y.2.1 pc = .ok (.ldc2_w i, 3)) (hp : pc + 3 = pc') : Go l w S Y d pc L st σ pc' L (.long v :: st) σ := by
  subst hp
  intro Post h p e s m args below meth c H locs ls C hl hP hD hS
  exact lv_ldc2 C.1 C.2.1 C.2.2.2.2.1 (C.2.2.2.2.2.1 _ hw) hd (h p e s m args below meth c H locs ls C hl hP hD hS)
theorem go_iload_n {k : Fin 4} {x : Int32} (i : Nat) (hd : decode Y.2.1 pc = .ok (.iload_n k, 1)) (hi : (k : Nat) = i) (hL : L[i]? = some (some (.int x))) (hp : pc + 1 = pc') : Go l w S Y d pc L st σ pc' L (.int x :: st) σ := by
  subst hp
  intro Post h p e s m args below meth c H locs ls C hl hP hD hS
  exact lv_iload_n C.1 C.2.1 hd hi (hl.2.2 i _ hL) (h p e s m args below meth c H locs ls C hl hP hD hS)
theorem go_iload {x : Int32} (i : Nat) (hd : decode Y.2.1 pc = .ok (.iload i, 2)) (hL : L[i]? = some (some (.int x))) (hp : pc + 2 = pc') : Go l w S Y d pc L st σ pc' L (.int x :: st) σ := by
  subst hp
  intro Post h p e s m args below meth c H locs ls C hl hP hD hS
  exact lv_iload C.1 C.2.1 hd (hl.2.2 i _ hL) (h p e s m args below meth c H locs ls C hl hP hD hS)
theorem go_lload_n {k : Fin 4} {x : Int64} (i : Nat) (hd : decode Y.2.1 pc = .ok (.lload_n k, 1)) (hi : (k : Nat) = i) (hL : L[i]? = some (some (.long x))) (hp : pc + 1 = pc') : Go l w S Y d pc L st σ pc' L (.long x :: st) σ := by
  subst hp
  intro Post h p e s m args below meth c H locs ls C hl hP hD hS
  exact lv_lload_n C.1 C.2.1 hd hi (hl.2.2 i _ hL) (h p e s m args below meth c H locs ls C hl hP hD hS)
theorem go_lload {x : Int64} (i : Nat) (hd : decode Y.2.1 pc = .ok (.lload i, 2)) (hL : L[i]? = some (some (.long x))) (hp : pc + 2 = pc') : Go l w S Y d pc L st σ pc' L (.long x :: st) σ := by
  subst hp
  intro Post h p e s m args below meth c H locs ls C hl hP hD hS
  exact lv_lload C.1 C.2.1 hd (hl.2.2 i _ hL) (h p e s m args below meth c H locs ls C hl hP hD hS)
theorem go_aload_n {k : Fin 4} {x : Nat} (i : Nat) (hd : decode Y.2.1 pc = .ok (.aload_n k, 1)) (hi : (k : Nat) = i) (hL : L[i]? = some (some (.ref x))) (hp : pc + 1 = pc') : Go l w S Y d pc L st σ pc' L (.ref x :: st) σ := by
  subst hp
  intro Post h p e s m args below meth c H locs ls C hl hP hD hS
  exact lv_aload_n C.1 C.2.1 hd hi (hl.2.2 i _ hL) (h p e s m args below meth c H locs ls C hl hP hD hS)
theorem go_aload {x : Nat} (i : Nat) (hd : decode Y.2.1 pc = .ok (.aload i, 2)) (hL : L[i]? = some (some (.ref x))) (hp : pc + 2 = pc') : Go l w S Y d pc L st σ pc' L (.ref x :: st) σ := by
  subst hp
  intro Post h p e s m args below meth c H locs ls C hl hP hD hS
  exact lv_aload C.1 C.2.1 hd (hl.2.2 i _ hL) (h p e s m args below meth c H locs ls C hl hP hD hS)
theorem go_aload_nN {k : Fin 4} (i : Nat) (hd : decode Y.2.1 pc = .ok (.aload_n k, 1)) (hi : (k : Nat) = i) (hL : L[i]? = some (some .null)) (hp : pc + 1 = pc') : Go l w S Y d pc L st σ pc' L (.null :: st) σ := by
  subst hp
  intro Post h p e s m args below meth c H locs ls C hl hP hD hS
  exact lv_aload_nN C.1 C.2.1 hd hi (hl.2.2 i _ hL) (h p e s m args below meth c H locs ls C hl hP hD hS)
theorem go_istore_n {k : Fin 4} {x : Int32} (i : Nat) (hd : decode Y.2.1 pc = .ok (.istore_n k, 1)) (hi : (k : Nat) = i) (hn : i < Y.2.2.1) (hL : st1 L i (.int x) = L') (hp : pc + 1 = pc') : Go l w S Y d pc L (.int x :: st) σ pc' L' st σ := by
  subst hp; subst hL
  intro Post h p e s m args below meth c H locs ls C hl hP hD hS
  exact lv_istore_n C.1 C.2.1 hd hi hl.has hn rfl (fun ls' h' => h p e s m args below meth c H locs ls' C (lvL.store1 (v := .int x) _ rfl ls' h') hP hD hS)
theorem go_istore {x : Int32} (i : Nat) (hd : decode Y.2.1 pc = .ok (.istore i, 2)) (hn : i < Y.2.2.1) (hL : st1 L i (.int x) = L') (hp : pc + 2 = pc') : Go l w S Y d pc L (.int x :: st) σ pc' L' st σ := by
  subst hp; subst hL
  intro Post h p e s m args below meth c H locs ls C hl hP hD hS
  exact lv_istore C.1 C.2.1 hd hl.has hn rfl (fun ls' h' => h p e s m args below meth c H locs ls' C (lvL.store1 (v := .int x) _ rfl ls' h') hP hD hS)
theorem go_lstore_n {k : Fin 4} {x : Int64} (i : Nat) (hd : decode Y.2.1 pc = .ok (.lstore_n k, 1)) (hi : (k : Nat) = i) (hn : i + 1 < Y.2.2.1) (hL : st2 L i (.long x) = L') (hp : pc + 1 = pc') : Go l w S Y d pc L (.long x :: st) σ pc' L' st σ := by
  subst hp; subst hL
  intro Post h p e s m args below meth c H locs ls C hl hP hD hS
  exact lv_lstore_n C.1 C.2.1 hd hi hl.has hn rfl (fun ls' h' => h p e s m args below meth c H locs ls' C (lvL.store2 (v := .long x) _ rfl ls' h') hP hD hS)
theorem go_lstore {x : Int64} (i : Nat) (hd : decode Y.2.1 pc = .ok (.lstore i, 2)) (hn : i + 1 < Y.2.2.1) (hL : st2 L i (.long x) = L') (hp : pc + 2 = pc') : Go l w S Y d pc L (.long x :: st) σ pc' L' st σ := by
  subst hp; subst hL
  intro Post h p e s m args below meth c H locs ls C hl hP hD hS
  exact lv_lstore C.1 C.2.1 hd hl.has hn rfl (fun ls' h' => h p e s m args below meth c H locs ls' C (lvL.store2 (v := .long x) _ rfl ls' h') hP hD hS)
theorem go_astore_n {k : Fin 4} {x : Nat} (i : Nat) (hd : decode Y.2.1 pc = .ok (.astore_n k, 1)) (hi : (k : Nat) = i) (hn : i < Y.2.2.1) (hL : st1 L i (.ref x) = L') (hp : pc + 1 = pc') : Go l w S Y d pc L (.ref x :: st) σ pc' L' st σ := by
  subst hp; subst hL
  intro Post h p e s m args below meth c H locs ls C hl hP hD hS
  exact lv_astore_n C.1 C.2.1 hd hi hl.has hn rfl (fun ls' h' => h p e s m args below meth c H locs ls' C (lvL.store1 (v := .ref x) _ rfl ls' h') hP hD hS)
theorem go_astore {x : Nat} (i : Nat) (hd : decode Y.2.1 pc = .ok (.astore i, 2)) (hn : i < Y.2.2.1) (hL : st1 L i (.ref x) = L') (hp : pc + 2 = pc') : Go l w S Y d pc L (.ref x :: st) σ pc' L' st σ := by
  subst hp; subst hL
  intro Post h p e s m args below meth c H locs ls C hl hP hD hS
  exact lv_astore C.1 C.2.1 hd hl.has hn rfl (fun ls' h' => h p e s m args below meth c H locs ls' C (lvL.store1 (v := .ref x) _ rfl ls' h') hP hD hS)
theorem go_astore_nN {k : Fin 4} (i : Nat) (hd : decode Y.2.1 pc = .ok (.astore_n k, 1)) (hi : (k : Nat) = i) (hn : i < Y.2.2.1) (hL : st1 L i .null = L') (hp : pc + 1 = pc') : Go l w S Y d pc L (.null :: st) σ pc' L' st σ := by
  subst hp; subst hL
  intro Post h p e s m args below meth c H locs ls C hl hP hD hS
  exact lv_astore_nN C.1 C.2.1 hd hi hl.has hn rfl (fun ls' h' => h p e s m args below meth c H locs ls' C (lvL.store1 (v := .null) _ rfl ls' h') hP hD hS)
theorem asc_ix {w : Wo} {L : Lo} {i : Nat} {v : Value} (h : L[i]? = some (some v)) : ∃ k : Nat, (asc w 0 L)[k]? = some (i, tv w v) := by
  have := asc_mem (w := w) L 0 i v h
  rw [Nat.zero_add] at this
  exact List.getElem?_of_mem this
theorem go_iinc {n : Int} {x v : Int32} (i : Nat) (hd : decode Y.2.1 pc = .ok (.iinc i n, 3)) (hx : L[i]? = some (some (.int x))) (hv : x + Int32.ofInt n = v) (hn : i < Y.2.2.1) (hL : st1 L i (.int v) = L') (hp : pc + 3 = pc') : Go l w S Y d pc L st σ pc' L' st σ := by
  subst hp; subst hL
  intro Post h p e s m args below meth c H locs ls C hl hP hD hS
  obtain ⟨k, hk⟩ := asc_ix (w := w) hx
  exact lv_iinc C.1 C.2.1 hd hl.has hk hv hn rfl (fun ls' h' => h p e s m args below meth c H locs ls' C (lvL.store1 (v := .int v) _ rfl ls' h') hP hD hS)
theorem go_goto {off : Int} (hd : decode Y.2.1 pc = .ok (.goto off, 3)) (hp : (pc : Int) + off = (pc' : Int)) : Go l w S Y d pc L st σ pc' L st σ := by
  intro Post h p e s m args below meth c H locs ls C hl hP hD hS
  exact lv_goto C.1 C.2.1 hd hp (h p e s m args below meth c H locs ls C hl hP hD hS)
theorem go_null (hd : decode Y.2.1 pc = .ok (.aconst_null, 1)) (hp : pc + 1 = pc') : Go l w S Y d pc L st σ pc' L (.null :: st) σ := by
  subst hp
  intro Post h p e s m args below meth c H locs ls C hl hP hD hS
  exact lv_null C.1 C.2.1 hd (h p e s m args below meth c H locs ls C hl hP hD hS)
theorem go_ifnonnull {off : Int} {x : Nat} (hd : decode Y.2.1 pc = .ok (.ifnonnull off, 3)) (hp : (pc : Int) + off = (pc' : Int)) : Go l w S Y d pc L (.ref x :: st) σ pc' L st σ := by
  intro Post h p e s m args below meth c H locs ls C hl hP hD hS
  exact lv_ifnonnull C.1 C.2.1 hd hp (h p e s m args below meth c H locs ls C hl hP hD hS)
theorem go_ifnonnullN {off : Int} (hd : decode Y.2.1 pc = .ok (.ifnonnull off, 3)) (hp : pc + 3 = pc') : Go l w S Y d pc L (.null :: st) σ pc' L st σ := by
  subst hp
  intro Post h p e s m args below meth c H locs ls C hl hP hD hS
  exact lv_ifnonnullN C.1 C.2.1 hd (h p e s m args below meth c H locs ls C hl hP hD hS)
theorem go_ifnull {off : Int} {x : Nat} (hd : decode Y.2.1 pc = .ok (.ifnull off, 3)) (hp : pc + 3 = pc') : Go l w S Y d pc L (.ref x :: st) σ pc' L st σ := by
  subst hp
  intro Post h p e s m args below meth c H locs ls C hl hP hD hS
  exact lv_ifnull C.1 C.2.1 hd (h p e s m args below meth c H locs ls C hl hP hD hS)
theorem go_ifnullN {off : Int} (hd : decode Y.2.1 pc = .ok (.ifnull off, 3)) (hp : (pc : Int) + off = (pc' : Int)) : Go l w S Y d pc L (.null :: st) σ pc' L st σ := by
  intro Post h p e s m args below meth c H locs ls C hl hP hD hS
  exact lv_ifnullN C.1 C.2.1 hd hp (h p e s m args below meth c H locs ls C hl hP hD hS)
theorem go_dup {v : Value} (hd : decode Y.2.1 pc = .ok (.dup, 1)) (hc : v.category = 1) (hp : pc + 1 = pc') : Go l w S Y d pc L (v :: st) σ pc' L (v :: v :: st) σ := by
  subst hp
  intro Post h p e s m args below meth c H locs ls C hl hP hD hS
  exact lv_dup C.1 C.2.1 hd ((tv_cat w v).trans hc) (h p e s m args below meth c H locs ls C hl hP hD hS)
theorem go_dup2 {u v : Value} (hd : decode Y.2.1 pc = .ok (.dup2, 1)) (hc : v.category = 1) (hu : u.category = 1) (hp : pc + 1 = pc') : Go l w S Y d pc L (v :: u :: st) σ pc' L (v :: u :: v :: u :: st) σ := by
  subst hp
  intro Post h p e s m args below meth c H locs ls C hl hP hD hS
  exact lv_dup2_11 C.1 C.2.1 hd ((tv_cat w v).trans hc) ((tv_cat w u).trans hu) (h p e s m args below meth c H locs ls C hl hP hD hS)
theorem go_pop {v : Value} (hd : decode Y.2.1 pc = .ok (.pop, 1)) (hc : v.category = 1) (hp : pc + 1 = pc') : Go l w S Y d pc L (v :: st) σ pc' L st σ := by
  subst hp
  intro Post h p e s m args below meth c H locs ls C hl hP hD hS
  exact lv_pop C.1 C.2.1 hd ((tv_cat w v).trans hc) (h p e s m args below meth c H locs ls C hl hP hD hS)
theorem go_iadd {x : Int32} {y : Int32} (hd : decode Y.2.1 pc = .ok (.iadd, 1)) (hp : pc + 1 = pc') : Go l w S Y d pc L (.int y :: .int x :: st) σ pc' L (.int (x + y) :: st) σ := by
  subst hp
  intro Post h p e s m args below meth c H locs ls C hl hP hD hS
  exact lv_iadd C.1 C.2.1 hd (h p e s m args below meth c H locs ls C hl hP hD hS)
theorem go_isub {x : Int32} {y : Int32} (hd : decode Y.2.1 pc = .ok (.isub, 1)) (hp : pc + 1 = pc') : Go l w S Y d pc L (.int y :: .int x :: st) σ pc' L (.int (x - y) :: st) σ := by
  subst hp
  intro Post h p e s m args below meth c H locs ls C hl hP hD hS
  exact lv_isub C.1 C.2.1 hd (h p e s m args below meth c H locs ls C hl hP hD hS)
theorem go_imul {x : Int32} {y : Int32} (hd : decode Y.2.1 pc = .ok (.imul, 1)) (hp : pc + 1 = pc') : Go l w S Y d pc L (.int y :: .int x :: st) σ pc' L (.int (x * y) :: st) σ := by
  subst hp
  intro Post h p e s m args below meth c H locs ls C hl hP hD hS
  exact lv_imul C.1 C.2.1 hd (h p e s m args below meth c H locs ls C hl hP hD hS)
theorem go_iand {x : Int32} {y : Int32} (hd : decode Y.2.1 pc = .ok (.iand, 1)) (hp : pc + 1 = pc') : Go l w S Y d pc L (.int y :: .int x :: st) σ pc' L (.int (x &&& y) :: st) σ := by
  subst hp
  intro Post h p e s m args below meth c H locs ls C hl hP hD hS
  exact lv_iand C.1 C.2.1 hd (h p e s m args below meth c H locs ls C hl hP hD hS)
theorem go_ior {x : Int32} {y : Int32} (hd : decode Y.2.1 pc = .ok (.ior, 1)) (hp : pc + 1 = pc') : Go l w S Y d pc L (.int y :: .int x :: st) σ pc' L (.int (x ||| y) :: st) σ := by
  subst hp
  intro Post h p e s m args below meth c H locs ls C hl hP hD hS
  exact lv_ior C.1 C.2.1 hd (h p e s m args below meth c H locs ls C hl hP hD hS)
theorem go_ixor {x : Int32} {y : Int32} (hd : decode Y.2.1 pc = .ok (.ixor, 1)) (hp : pc + 1 = pc') : Go l w S Y d pc L (.int y :: .int x :: st) σ pc' L (.int (x ^^^ y) :: st) σ := by
  subst hp
  intro Post h p e s m args below meth c H locs ls C hl hP hD hS
  exact lv_ixor C.1 C.2.1 hd (h p e s m args below meth c H locs ls C hl hP hD hS)
theorem go_ladd {x : Int64} {y : Int64} (hd : decode Y.2.1 pc = .ok (.ladd, 1)) (hp : pc + 1 = pc') : Go l w S Y d pc L (.long y :: .long x :: st) σ pc' L (.long (x + y) :: st) σ := by
  subst hp
  intro Post h p e s m args below meth c H locs ls C hl hP hD hS
  exact lv_ladd C.1 C.2.1 hd (h p e s m args below meth c H locs ls C hl hP hD hS)
theorem go_lsub {x : Int64} {y : Int64} (hd : decode Y.2.1 pc = .ok (.lsub, 1)) (hp : pc + 1 = pc') : Go l w S Y d pc L (.long y :: .long x :: st) σ pc' L (.long (x - y) :: st) σ := by
  subst hp
  intro Post h p e s m args below meth c H locs ls C hl hP hD hS
  exact lv_lsub C.1 C.2.1 hd (h p e s m args below meth c H locs ls C hl hP hD hS)
theorem go_lmul {x : Int64} {y : Int64} (hd : decode Y.2.1 pc = .ok (.lmul, 1)) (hp : pc + 1 = pc') : Go l w S Y d pc L (.long y :: .long x :: st) σ pc' L (.long (x * y) :: st) σ := by
  subst hp
  intro Post h p e s m args below meth c H locs ls C hl hP hD hS
  exact lv_lmul C.1 C.2.1 hd (h p e s m args below meth c H locs ls C hl hP hD hS)
theorem go_land {x : Int64} {y : Int64} (hd : decode Y.2.1 pc = .ok (.land, 1)) (hp : pc + 1 = pc') : Go l w S Y d pc L (.long y :: .long x :: st) σ pc' L (.long (x &&& y) :: st) σ := by
  subst hp
  intro Post h p e s m args below meth c H locs ls C hl hP hD hS
  exact lv_land C.1 C.2.1 hd (h p e s m args below meth c H locs ls C hl hP hD hS)
theorem go_lor {x : Int64} {y : Int64} (hd : decode Y.2.1 pc = .ok (.lor, 1)) (hp : pc + 1 = pc') : Go l w S Y d pc L (.long y :: .long x :: st) σ pc' L (.long (x ||| y) :: st) σ := by
  subst hp
  intro Post h p e s m args below meth c H locs ls C hl hP hD hS
  exact lv_lor C.1 C.2.1 hd (h p e s m args below meth c H locs ls C hl hP hD hS)
theorem go_lxor {x : Int64} {y : Int64} (hd : decode Y.2.1 pc = .ok (.lxor, 1)) (hp : pc + 1 = pc') : Go l w S Y d pc L (.long y :: .long x :: st) σ pc' L (.long (x ^^^ y) :: st) σ := by
  subst hp
  intro Post h p e s m args below meth c H locs ls C hl hP hD hS
  exact lv_lxor C.1 C.2.1 hd (h p e s m args below meth c H locs ls C hl hP hD hS)
theorem go_idiv {x : Int32} {y : Int32} (hd : decode Y.2.1 pc = .ok (.idiv, 1)) (hne : ¬ y = 0) (hp : pc + 1 = pc') : Go l w S Y d pc L (.int y :: .int x :: st) σ pc' L (.int (x / y) :: st) σ := by
  subst hp
  intro Post h p e s m args below meth c H locs ls C hl hP hD hS
  exact lv_idiv C.1 C.2.1 hd hne (h p e s m args below meth c H locs ls C hl hP hD hS)
theorem go_irem {x : Int32} {y : Int32} (hd : decode Y.2.1 pc = .ok (.irem, 1)) (hne : ¬ y = 0) (hp : pc + 1 = pc') : Go l w S Y d pc L (.int y :: .int x :: st) σ pc' L (.int (x - x / y * y) :: st) σ := by
  subst hp
  intro Post h p e s m args below meth c H locs ls C hl hP hD hS
  exact lv_irem C.1 C.2.1 hd hne (h p e s m args below meth c H locs ls C hl hP hD hS)
theorem go_lrem {x : Int64} {y : Int64} (hd : decode Y.2.1 pc = .ok (.lrem, 1)) (hne : ¬ y = 0) (hp : pc + 1 = pc') : Go l w S Y d pc L (.long y :: .long x :: st) σ pc' L (.long (x - x / y * y) :: st) σ := by
  subst hp
  intro Post h p e s m args below meth c H locs ls C hl hP hD hS
  exact lv_lrem C.1 C.2.1 hd hne (h p e s m args below meth c H locs ls C hl hP hD hS)
theorem go_ishr {x : Int32} {y : Int32} (hd : decode Y.2.1 pc = .ok (.ishr, 1)) (hp : pc + 1 = pc') : Go l w S Y d pc L (.int y :: .int x :: st) σ pc' L (.int (x >>> (y &&& 31)) :: st) σ := by
  subst hp
  intro Post h p e s m args below meth c H locs ls C hl hP hD hS
  exact lv_ishr C.1 C.2.1 hd (h p e s m args below meth c H locs ls C hl hP hD hS)
theorem go_ishl {x : Int32} {y : Int32} (hd : decode Y.2.1 pc = .ok (.ishl, 1)) (hp : pc + 1 = pc') : Go l w S Y d pc L (.int y :: .int x :: st) σ pc' L (.int (x <<< (y &&& 31)) :: st) σ := by
  subst hp
  intro Post h p e s m args below meth c H locs ls C hl hP hD hS
  exact lv_ishl C.1 C.2.1 hd (h p e s m args below meth c H locs ls C hl hP hD hS)
theorem go_iushr {x : Int32} {y : Int32} (hd : decode Y.2.1 pc = .ok (.iushr, 1)) (hp : pc + 1 = pc') : Go l w S Y d pc L (.int y :: .int x :: st) σ pc' L (.int ((x.toUInt32 >>> (y.toUInt32 &&& Int32.toUInt32 31)).toInt32) :: st) σ := by
  subst hp
  intro Post h p e s m args below meth c H locs ls C hl hP hD hS
  exact lv_iushr C.1 C.2.1 hd rfl (h p e s m args below meth c H locs ls C hl hP hD hS)
theorem go_lushr {x : Int64} {y : Int32} (hd : decode Y.2.1 pc = .ok (.lushr, 1)) (hp : pc + 1 = pc') : Go l w S Y d pc L (.int y :: .long x :: st) σ pc' L (.long ((x.toUInt64 >>> (y.toInt64.toUInt64 &&& Int64.toUInt64 63)).toInt64) :: st) σ := by
  subst hp
  intro Post h p e s m args below meth c H locs ls C hl hP hD hS
  exact lv_lushr C.1 C.2.1 hd rfl (h p e s m args below meth c H locs ls C hl hP hD hS)
theorem go_lshl {x : Int64} {y : Int32} (hd : decode Y.2.1 pc = .ok (.lshl, 1)) (hp : pc + 1 = pc') : Go l w S Y d pc L (.int y :: .long x :: st) σ pc' L (.long (x <<< (y.toInt64 &&& 63)) :: st) σ := by
  subst hp
  intro Post h p e s m args below meth c H locs ls C hl hP hD hS
  exact lv_lshl C.1 C.2.1 hd rfl (h p e s m args below meth c H locs ls C hl hP hD hS)
theorem go_lshr {x : Int64} {y : Int32} (hd : decode Y.2.1 pc = .ok (.lshr, 1)) (hp : pc + 1 = pc') : Go l w S Y d pc L (.int y :: .long x :: st) σ pc' L (.long (x >>> (y.toInt64 &&& 63)) :: st) σ := by
  subst hp
  intro Post h p e s m args below meth c H locs ls C hl hP hD hS
  exact lv_lshr C.1 C.2.1 hd rfl (h p e s m args below meth c H locs ls C hl hP hD hS)
theorem go_lcmp {x : Int64} {y : Int64} (hd : decode Y.2.1 pc = .ok (.lcmp, 1)) (hp : pc + 1 = pc') : Go l w S Y d pc L (.long y :: .long x :: st) σ pc' L (.int (lg_cmp x y) :: st) σ := by
  subst hp
  intro Post h p e s m args below meth c H locs ls C hl hP hD hS
  exact W.lcmp C.1 C.2.1 hd (h p e s m args below meth c H locs ls C hl hP hD hS)
theorem go_i2l {x : Int32} (hd : decode Y.2.1 pc = .ok (.i2l, 1)) (hp : pc + 1 = pc') : Go l w S Y d pc L (.int x :: st) σ pc' L (.long (x.toInt64) :: st) σ := by
  subst hp
  intro Post h p e s m args below meth c H locs ls C hl hP hD hS
  exact lv_i2l C.1 C.2.1 hd rfl (h p e s m args below meth c H locs ls C hl hP hD hS)
theorem go_l2i {x : Int64} (hd : decode Y.2.1 pc = .ok (.l2i, 1)) (hp : pc + 1 = pc') : Go l w S Y d pc L (.long x :: st) σ pc' L (.int (x.toInt32) :: st) σ := by
  subst hp
  intro Post h p e s m args below meth c H locs ls C hl hP hD hS
  exact lv_l2i C.1 C.2.1 hd rfl (h p e s m args below meth c H locs ls C hl hP hD hS)
theorem go_i2b {x : Int32} (hd : decode Y.2.1 pc = .ok (.i2b, 1)) (hp : pc + 1 = pc') : Go l w S Y d pc L (.int x :: st) σ pc' L (.int (x.toInt8.toInt32) :: st) σ := by
  subst hp
  intro Post h p e s m args below meth c H locs ls C hl hP hD hS
  exact lv_i2b C.1 C.2.1 hd rfl (h p e s m args below meth c H locs ls C hl hP hD hS)
theorem go_i2c {x : Int32} (hd : decode Y.2.1 pc = .ok (.i2c, 1)) (hp : pc + 1 = pc') : Go l w S Y d pc L (.int x :: st) σ pc' L (.int ((x.toUInt32 % 65536).toInt32) :: st) σ := by
  subst hp
  intro Post h p e s m args below meth c H locs ls C hl hP hD hS
  exact lv_i2c C.1 C.2.1 hd rfl (h p e s m args below meth c H locs ls C hl hP hD hS)
end RU
