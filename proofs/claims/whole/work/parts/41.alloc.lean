/-! constructors: a run that makes cells; the world is a list of cells at their own addresses -/
def CxA (w : Wo) (Y : Mt) (p : Program) (s : State) (m : MethodId) (args : Array Value) (meth : Method) (c : Code) : Prop :=
  p.tables.exec = Jvm.exec ∧ c.code = Y.2.1 ∧ c.maxLocals = Y.2.2.1 ∧ meth.sig.returnType = Y.2.2.2 ∧ s.vm.findClass Y.1.cls = some m.cls ∧ (∀ q ∈ tb, q.before args s = true) ∧ meth.locks = false ∧ va_K w.1 vwCl (tysW w) s ∧ Nb s ∧ meth.name = Y.1.name ∧ va_AO "HeadNets$Net" s
def lvA (ls : Array Slot) (nL : Nat) (L : Lo) : Prop := ls.size = nL ∧ lv_wf ls ∧ ∀ (i : Nat) (v : Value), L[i]? = some (some v) → ls[i]? = some (.val v)
def PA (l : Launch) (w : Wo) (Y : Mt) (R : Room) (Qc : Array Value → State → Outcome → State → Prop) (mc ms : Nat) (A : Nat → Prop) (pc : Nat) (L : Lo) (st : List Value) (ws : va_W) (cells slots : Nat) : Prop :=
  ∀ (p : Program) (e : Env) (s : State) (m : MethodId) (args : Array Value) (below : List Frame) (meth : Method) (c : Code) (H : Heap) (locs : List Loc) (ls : Array Slot),
    CxA w Y p s m args meth c → lvA ls Y.2.2.1 L → va_P w.1 vwCl ws H → va_D A ws → va_S A s.heap H locs → (∀ q, s.heap.size ≤ q → A q) →
    W p l e R s m args below meth c H locs cells slots (MQ below Qc args s mc ms A) (F0 m pc ls st)
/-- a room for constructors: frames by the depth, cells and slots as they are made -/
def rmC (d mc ms : Nat) : Room := { frames := d, cells := mc, slots := ms, locals := 80 * d }
theorem wac_I : Cond.arrayClass .int ∈ tb := tb1 69 rfl rfl
theorem wac_J : Cond.arrayClass .long ∈ tb := tb1 70 rfl rfl
theorem wac_B : Cond.arrayClass .byte ∈ tb := tb1 114 rfl rfl
theorem wac_Z : Cond.arrayClass .boolean ∈ tb := tb1 71 rfl rfl
theorem va_RA_inj {U : State} {cA cB : ClassId} {ty : FieldType} (hty : ∀ C, ty ≠ .object C) (h1 : va_RA U cA ty) (h2 : va_RA U cB ty) : cA = cB := by
  cases ty with
  | object C => exact absurd rfl (hty C)
  | _ => exact Option.some.inj (h1.symm.trans h2)
section PAR
variable {l : Launch} {w : Wo} {Y : Mt} {R : Room} {Qc : Array Value → State → Outcome → State → Prop} {mc ms : Nat} {A : Nat → Prop} {pc pc' : Nat} {L L' : Lo} {st rest : List Value} {ws : va_W} {cells slots : Nat}
theorem pa_aload {k : Fin 4} {x : Nat} (i : Nat) (hd : decode Y.2.1 pc = .ok (.aload_n k, 1)) (hi : (k : Nat) = i) (hL : L[i]? = some (some (.ref x))) (hp : pc + 1 = pc') (h : PA l w Y R Qc mc ms A pc' L (.ref x :: st) ws cells slots) : PA l w Y R Qc mc ms A pc L st ws cells slots := by
  subst hp
  intro p e s m args below meth c H locs ls C hl hP hD hS hA
  exact lv_aload_n C.1 C.2.1 hd hi (hl.2.2 i _ hL) (h p e s m args below meth c H locs ls C hl hP hD hS hA)
theorem pa_iload {k : Fin 4} {x : Int32} (i : Nat) (hd : decode Y.2.1 pc = .ok (.iload_n k, 1)) (hi : (k : Nat) = i) (hL : L[i]? = some (some (.int x))) (hp : pc + 1 = pc') (h : PA l w Y R Qc mc ms A pc' L (.int x :: st) ws cells slots) : PA l w Y R Qc mc ms A pc L st ws cells slots := by
  subst hp
  intro p e s m args below meth c H locs ls C hl hP hD hS hA
  exact lv_iload_n C.1 C.2.1 hd hi (hl.2.2 i _ hL) (h p e s m args below meth c H locs ls C hl hP hD hS hA)
theorem pa_iconst {n : Int} {v : Int32} (hd : decode Y.2.1 pc = .ok (.iconst n, 1)) (hv : Int32.ofInt n = v) (hp : pc + 1 = pc') (h : PA l w Y R Qc mc ms A pc' L (.int v :: st) ws cells slots) : PA l w Y R Qc mc ms A pc L st ws cells slots := by
  subst hp
  intro p e s m args below meth c H locs ls C hl hP hD hS hA
  exact lv_iconst C.1 C.2.1 hd hv (h p e s m args below meth c H locs ls C hl hP hD hS hA)
theorem pa_bipush {n : Int} {v : Int32} (hd : decode Y.2.1 pc = .ok (.bipush n, 2)) (hv : (Int8.ofInt n).toInt32 = v) (hp : pc + 2 = pc') (h : PA l w Y R Qc mc ms A pc' L (.int v :: st) ws cells slots) : PA l w Y R Qc mc ms A pc L st ws cells slots := by
  subst hp
  intro p e s m args below meth c H locs ls C hl hP hD hS hA
  exact lv_bipush C.1 C.2.1 hd hv (h p e s m args below meth c H locs ls C hl hP hD hS hA)
theorem pa_sipush {n : Int} {v : Int32} (hd : decode Y.2.1 pc = .ok (.sipush n, 3)) (hv : (Int16.ofInt n).toInt32 = v) (hp : pc + 3 = pc') (h : PA l w Y R Qc mc ms A pc' L (.int v :: st) ws cells slots) : PA l w Y R Qc mc ms A pc L st ws cells slots := by
  subst hp
  intro p e s m args below meth c H locs ls C hl hP hD hS hA
  exact lv_sipush C.1 C.2.1 hd hv (h p e s m args below meth c H locs ls C hl hP hD hS hA)
theorem pa_lconst {n : Fin 2} {v : Int64} (hd : decode Y.2.1 pc = .ok (.lconst n, 1)) (hv : Int64.ofNat (n : Nat) = v) (hp : pc + 1 = pc') (h : PA l w Y R Qc mc ms A pc' L (.long v :: st) ws cells slots) : PA l w Y R Qc mc ms A pc L st ws cells slots := by
  subst hp
  intro p e s m args below meth c H locs ls C hl hP hD hS hA
  exact lv_lconst C.1 C.2.1 hd hv (h p e s m args below meth c H locs ls C hl hP hD hS hA)
theorem pa_dup {v : Value} (hd : decode Y.2.1 pc = .ok (.dup, 1)) (hc : v.category = 1) (hp : pc + 1 = pc') (h : PA l w Y R Qc mc ms A pc' L (v :: v :: st) ws cells slots) : PA l w Y R Qc mc ms A pc L (v :: st) ws cells slots := by
  subst hp
  intro p e s m args below meth c H locs ls C hl hP hD hS hA
  exact lv_dup C.1 C.2.1 hd hc (h p e s m args below meth c H locs ls C hl hP hD hS hA)
theorem pa_goto {off : Int} (hd : decode Y.2.1 pc = .ok (.goto off, 3)) (hp : (pc : Int) + off = (pc' : Int)) (h : PA l w Y R Qc mc ms A pc' L st ws cells slots) : PA l w Y R Qc mc ms A pc L st ws cells slots := by
  intro p e s m args below meth c H locs ls C hl hP hD hS hA
  exact lv_goto C.1 C.2.1 hd hp (h p e s m args below meth c H locs ls C hl hP hD hS hA)
/-- a test whose answer is known -/
theorem pa_geT {x y : Int32} {off : Int} (hxy : y ≤ x) (hd : decode Y.2.1 pc = .ok (.if_icmp .ge off, 3)) (hp : (pc : Int) + off = (pc' : Int)) (h : PA l w Y R Qc mc ms A pc' L st ws cells slots) : PA l w Y R Qc mc ms A pc L (.int y :: .int x :: st) ws cells slots := by
  intro p e s m args below meth c H locs ls C hl hP hD hS hA
  exact lv_icmp_ge C.1 C.2.1 hd hp (fun _ => h p e s m args below meth c H locs ls C hl hP hD hS hA) (fun q => absurd hxy q)
theorem pa_geF {x y : Int32} {off : Int} {tgt : Nat} (hxy : ¬ y ≤ x) (hd : decode Y.2.1 pc = .ok (.if_icmp .ge off, 3)) (ht : (pc : Int) + off = (tgt : Int)) (hp : pc + 3 = pc') (h : PA l w Y R Qc mc ms A pc' L st ws cells slots) : PA l w Y R Qc mc ms A pc L (.int y :: .int x :: st) ws cells slots := by
  subst hp
  intro p e s m args below meth c H locs ls C hl hP hD hS hA
  exact lv_icmp_ge C.1 C.2.1 hd ht (fun q => absurd q hxy) (fun _ => h p e s m args below meth c H locs ls C hl hP hD hS hA)
theorem pa_istore {k : Fin 4} {x : Int32} {l0 : Nat} (hd : decode Y.2.1 pc = .ok (.istore_n k, 1)) (hk : (k : Nat) = 1) (hn : 1 < Y.2.2.1) (hp : pc + 1 = pc') (hL : L = [some (.ref l0), none] ∨ ∃ z, L = [some (.ref l0), some (.int z)]) (h : PA l w Y R Qc mc ms A pc' [some (.ref l0), some (.int x)] st ws cells slots) : PA l w Y R Qc mc ms A pc L (.int x :: st) ws cells slots := by
  subst hp
  intro p e s m args below meth c H locs ls C hl hP hD hS hA
  have h0 : ls[0]? = some (.val (.ref l0)) := hl.2.2 0 _ (by rcases hL with rfl | ⟨z, rfl⟩ <;> rfl)
  have hh : lv_has ls Y.2.2.1 [(0, .ref l0)] := ⟨hl.1, hl.2.1, fun q hq => by
    rw [List.mem_singleton] at hq
    subst hq
    exact h0⟩
  refine lv_istore_n (lv' := [(1, .int x), (0, .ref l0)]) C.1 C.2.1 hd hk hh hn rfl (fun ls' h' => ?_)
  refine h p e s m args below meth c H locs ls' C ⟨h'.1, h'.2.1, fun i v hi => ?_⟩ hP hD hS hA
  match i, hi with
  | 0, hi => cases hi; exact h'.2.2 (0, .ref l0) (by simp)
  | 1, hi => cases hi; exact h'.2.2 (1, .int x) (by simp)
  | i + 2, hi => simp at hi
theorem pa_newI {n : Int32} {N : Nat} (hn : ¬ n < 0) (hN : n.toNatClampNeg = N) (hb4 : N * componentBytes FieldType.int ≤ 536870912) (hc : cells + 1 ≤ R.cells) (hs : slots + N ≤ R.slots) (hd : decode Y.2.1 pc = .ok (.newarray .int, 2)) (hp : pc + 2 = pc') (h : ∀ q, PA l w Y R Qc mc ms A pc' L (.ref q :: st) (ws ++ [(q, .inl (w.2.1 0, N, .inl (fun _ => 0)))]) (cells + 1) (slots + N)) : PA l w Y R Qc mc ms A pc L (.int n :: st) ws cells slots := by
  subst hp
  intro p e s m args below meth c H locs ls C hl hP hD hS hA
  refine va_newa (atype := .int) C.1 C.2.1 (C.2.2.2.2.2.1 (.arrayClass FieldType.int) wac_I) rfl C.2.2.2.2.2.2.2.1 hP hD hS hA (a0 := (N, .inl (fun _ => 0))) (fun _ => rfl) hn hN hb4 hc hs hd ?_
  intro q cA H1 hK1 hP1 hD1 hS1
  have e3 : cA = w.2.1 0 := va_RA_inj (ty := FieldType.int) (fun _ h => by cases h) (hK1.2 5 (cA, FieldType.int) rfl).2 (C.2.2.2.2.2.2.2.1.2 0 (w.2.1 0, FieldType.int) rfl).2
  subst e3
  exact h q p e s m args below meth c H1 locs ls C hl hP1 hD1 hS1 hA
theorem pa_newJ {n : Int32} {N : Nat} (hn : ¬ n < 0) (hN : n.toNatClampNeg = N) (hb4 : N * componentBytes FieldType.long ≤ 536870912) (hc : cells + 1 ≤ R.cells) (hs : slots + N ≤ R.slots) (hd : decode Y.2.1 pc = .ok (.newarray .long, 2)) (hp : pc + 2 = pc') (h : ∀ q, PA l w Y R Qc mc ms A pc' L (.ref q :: st) (ws ++ [(q, .inl (w.2.1 1, N, .inr (.inl (fun _ => 0))))]) (cells + 1) (slots + N)) : PA l w Y R Qc mc ms A pc L (.int n :: st) ws cells slots := by
  subst hp
  intro p e s m args below meth c H locs ls C hl hP hD hS hA
  refine va_newa (atype := .long) C.1 C.2.1 (C.2.2.2.2.2.1 (.arrayClass FieldType.long) wac_J) rfl C.2.2.2.2.2.2.2.1 hP hD hS hA (a0 := (N, .inr (.inl (fun _ => 0)))) (fun _ => rfl) hn hN hb4 hc hs hd ?_
  intro q cA H1 hK1 hP1 hD1 hS1
  have e3 : cA = w.2.1 1 := va_RA_inj (ty := FieldType.long) (fun _ h => by cases h) (hK1.2 5 (cA, FieldType.long) rfl).2 (C.2.2.2.2.2.2.2.1.2 1 (w.2.1 1, FieldType.long) rfl).2
  subst e3
  exact h q p e s m args below meth c H1 locs ls C hl hP1 hD1 hS1 hA
theorem pa_newB {n : Int32} {N : Nat} (hn : ¬ n < 0) (hN : n.toNatClampNeg = N) (hb4 : N * componentBytes FieldType.byte ≤ 536870912) (hc : cells + 1 ≤ R.cells) (hs : slots + N ≤ R.slots) (hd : decode Y.2.1 pc = .ok (.newarray .byte, 2)) (hp : pc + 2 = pc') (h : ∀ q, PA l w Y R Qc mc ms A pc' L (.ref q :: st) (ws ++ [(q, .inl (w.2.1 2, N, .inl (fun _ => 0)))]) (cells + 1) (slots + N)) : PA l w Y R Qc mc ms A pc L (.int n :: st) ws cells slots := by
  subst hp
  intro p e s m args below meth c H locs ls C hl hP hD hS hA
  refine va_newa (atype := .byte) C.1 C.2.1 (C.2.2.2.2.2.1 (.arrayClass FieldType.byte) wac_B) rfl C.2.2.2.2.2.2.2.1 hP hD hS hA (a0 := (N, .inl (fun _ => 0))) (fun _ => rfl) hn hN hb4 hc hs hd ?_
  intro q cA H1 hK1 hP1 hD1 hS1
  have e3 : cA = w.2.1 2 := va_RA_inj (ty := FieldType.byte) (fun _ h => by cases h) (hK1.2 5 (cA, FieldType.byte) rfl).2 (C.2.2.2.2.2.2.2.1.2 2 (w.2.1 2, FieldType.byte) rfl).2
  subst e3
  exact h q p e s m args below meth c H1 locs ls C hl hP1 hD1 hS1 hA
theorem pa_newZ {n : Int32} {N : Nat} (hn : ¬ n < 0) (hN : n.toNatClampNeg = N) (hb4 : N * componentBytes FieldType.boolean ≤ 536870912) (hc : cells + 1 ≤ R.cells) (hs : slots + N ≤ R.slots) (hd : decode Y.2.1 pc = .ok (.newarray .boolean, 2)) (hp : pc + 2 = pc') (h : ∀ q, PA l w Y R Qc mc ms A pc' L (.ref q :: st) (ws ++ [(q, .inl (w.2.1 3, N, .inl (fun _ => 0)))]) (cells + 1) (slots + N)) : PA l w Y R Qc mc ms A pc L (.int n :: st) ws cells slots := by
  subst hp
  intro p e s m args below meth c H locs ls C hl hP hD hS hA
  refine va_newa (atype := .boolean) C.1 C.2.1 (C.2.2.2.2.2.1 (.arrayClass FieldType.boolean) wac_Z) rfl C.2.2.2.2.2.2.2.1 hP hD hS hA (a0 := (N, .inl (fun _ => 0))) (fun _ => rfl) hn hN hb4 hc hs hd ?_
  intro q cA H1 hK1 hP1 hD1 hS1
  have e3 : cA = w.2.1 3 := va_RA_inj (ty := FieldType.boolean) (fun _ h => by cases h) (hK1.2 5 (cA, FieldType.boolean) rfl).2 (C.2.2.2.2.2.2.2.1.2 3 (w.2.1 3, FieldType.boolean) rfl).2
  subst e3
  exact h q p e s m args below meth c H1 locs ls C hl hP1 hD1 hS1 hA
theorem pa_new {ci N idx : Nat} {C : String} {T : u_T} {ty : Nat → FieldType} {fs : List Value} (cf : CF ci C T N ty) (hl : Cond.classLink Y.1.cls idx C ∈ tb) (hi : Cond.instantiable C N ∈ tb) (hn : Cond.initialized C ∈ tb) (hfs : ∀ j, j < N → defaultValue (ty j) = vp_V fs j) (hc : cells + 1 ≤ R.cells) (hs : slots + N ≤ R.slots) (hd : decode Y.2.1 pc = .ok (.new idx, 3)) (hp : pc + 3 = pc') (h : ∀ q, PA l w Y R Qc mc ms A pc' L (.ref q :: st) (ws ++ [(q, .inr (ci, fs))]) (cells + 1) (slots + N)) : PA l w Y R Qc mc ms A pc L st ws cells slots := by
  subst hp
  intro p e s m args below meth c H locs ls X hl' hP hD hS hA
  exact va_new X.1 X.2.1 X.2.2.2.2.2.1 cf.2.1 ty cf.2.2.1 X.2.2.2.2.1 (X.2.2.2.2.2.1 _ hl) (X.2.2.2.2.2.1 _ hi) (X.2.2.2.2.2.1 _ hn) X.2.2.2.2.2.2.2.1 hP hD hS hA cf.1 hfs hc hs hd (fun q H1 hP1 hD1 hS1 => h q p e s m args below meth c H1 locs ls X hl' hP1 hD1 hS1 hA)
theorem pa_putF {ci N j a idx : Nat} {C : String} {T : u_T} {ty : Nat → FieldType} {fs : List Value} {ws' : va_W} {v : Value} (q0 : Nat) (cf : CF ci C T N ty) (he : ws[q0]? = some (a, .inr (ci, fs))) (hj : j < N) (hfin : (T j).2.2.2 = true) (hini : Y.1.name = "<init>") (hdecl : (T j).1 = Y.1.cls) (hn : narrow (ty j) v = v) (hfit : fits (ty j) v = true) (hlen : j < fs.length) (hw : Cond.fieldLink Y.1.cls idx (T j).1 (T j).2.1 (T j).2.2.1 ∈ tb) (hws : ws.set q0 (a, .inr (ci, fs.set j v)) = ws') (hd : decode Y.2.1 pc = .ok (.putfield idx, 3)) (hp : pc + 3 = pc') (h : PA l w Y R Qc mc ms A pc' L st ws' cells slots) : PA l w Y R Qc mc ms A pc L (v :: .ref a :: st) ws cells slots := by
  subst hp; subst hws
  intro p e s m args below meth c H locs ls X hl hP hD hS hA
  exact va_putF X.1 X.2.1 X.2.2.2.2.2.1 cf.2.1 ty cf.2.2.1 cf.2.2.2 X.2.2.2.2.1 X.2.2.2.2.2.2.2.1 hP hD hS q0 he cf.1 j hj (X.2.2.2.2.2.1 _ hw) (fun _ h => h) hfin (X.2.2.2.2.2.2.2.2.2.1.trans hini) hdecl (cf.2.2.1 j hj) hn hfit hlen hd (fun H1 locs1 hP1 hD1 hS1 => h p e s m args below meth c H1 locs1 ls X hl hP1 hD1 hS1 hA)
theorem pa_put {ci N j a idx : Nat} {C : String} {T : u_T} {ty : Nat → FieldType} {fs : List Value} {ws' : va_W} {v : Value} (q0 : Nat) (cf : CF ci C T N ty) (he : ws[q0]? = some (a, .inr (ci, fs))) (hj : j < N) (hfin : (T j).2.2.2 = false) (hn : narrow (ty j) v = v) (hfit : fits (ty j) v = true) (hlen : j < fs.length) (hw : Cond.fieldLink Y.1.cls idx (T j).1 (T j).2.1 (T j).2.2.1 ∈ tb) (hws : ws.set q0 (a, .inr (ci, fs.set j v)) = ws') (hd : decode Y.2.1 pc = .ok (.putfield idx, 3)) (hp : pc + 3 = pc') (h : PA l w Y R Qc mc ms A pc' L st ws' cells slots) : PA l w Y R Qc mc ms A pc L (v :: .ref a :: st) ws cells slots := by
  subst hp; subst hws
  intro p e s m args below meth c H locs ls X hl hP hD hS hA
  exact va_put X.1 X.2.1 X.2.2.2.2.2.1 cf.2.1 ty cf.2.2.1 cf.2.2.2 X.2.2.2.2.1 X.2.2.2.2.2.2.2.1 hP hD hS q0 he cf.1 j hj (X.2.2.2.2.2.1 _ hw) (fun _ h => h) hfin (cf.2.2.1 j hj) hn hfit hlen hd (fun H1 locs1 hP1 hD1 hS1 => h p e s m args below meth c H1 locs1 ls X hl hP1 hD1 hS1 hA)
theorem pa_get {ci N j a idx : Nat} {C : String} {T : u_T} {ty : Nat → FieldType} {fs : List Value} {v : Value} (q0 : Nat) (cf : CF ci C T N ty) (he : ws[q0]? = some (a, .inr (ci, fs))) (hj : j < N) (hv : fs[j]? = some v) (hw : Cond.fieldLink Y.1.cls idx (T j).1 (T j).2.1 (T j).2.2.1 ∈ tb) (hd : decode Y.2.1 pc = .ok (.getfield idx, 3)) (hp : pc + 3 = pc') (h : PA l w Y R Qc mc ms A pc' L (v :: st) ws cells slots) : PA l w Y R Qc mc ms A pc L (.ref a :: st) ws cells slots := by
  subst hp
  intro p e s m args below meth c H locs ls X hl hP hD hS hA
  exact va_get X.1 X.2.1 X.2.2.2.2.2.1 cf.2.1 X.2.2.2.2.1 X.2.2.2.2.2.2.2.1 hP q0 he cf.1 j hj (X.2.2.2.2.2.1 _ hw) (fun _ h => h) hv hd (h p e s m args below meth c H locs ls X hl hP hD hS hA)
theorem pa_objInit {idx a : Nat} (hlk : Cond.methodLink Y.1.cls idx Lib.objectInit ∈ tb) (hin : Cond.instanceMethod Lib.objectInit ∈ tb) (hco : Cond.code Lib.objectInit ⟨#[0xb1]⟩ 1 none ∈ tb) (hf : 1 ≤ R.frames) (hlo : (st.map fun v => v.category).sum + 12 ≤ R.locals) (hd : decode Y.2.1 pc = .ok (.invokespecial idx, 3)) (hp : pc + 3 = pc') (h : PA l w Y R Qc mc ms A pc' L st ws cells slots) : PA l w Y R Qc mc ms A pc L (.ref a :: st) ws cells slots := by
  subst hp
  intro p e s m args below meth c H locs ls X hl hP hD hS hA
  refine W.objInit X.1 X.2.1 X.2.2.2.2.1 (X.2.2.2.2.2.1 _ hlk) (X.2.2.2.2.2.1 _ hin) (X.2.2.2.2.2.1 _ hco) rfl (by rw [X.2.2.1]; exact hl.1) rfl hd hf (by show 2 * 0 + _ + 12 ≤ _; omega) ?_
  exact h p e s m args below meth c H locs ls X hl hP hD hS hA
end PAR
