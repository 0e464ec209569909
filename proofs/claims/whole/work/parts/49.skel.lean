-- ===== end of PART A; then your names; then what follows =====
/-! THE CLAIM OUT OF ONE WALK OF THE LAW'S BODY. Your part is whole_start (and what it stands on); all else here is the same for every law, but numbers. -/
def R_law : String := "HeadNetsLaw"
def lw_P (b : Addr) (xs : List Int32) (args : Array Value) (s : State) : Prop := args = #[.ref b] ∧ s.IntsAt b xs ∧ xs.length ≤ 3072 ∧ (Jvm.Cond.and given_1 narrow_1).before args s = true
def lw_Q (_ : Array Value) (s : State) (o : Outcome) (t : State) : Prop := o = .returned (some (.int 1)) ∧ Framed s o t [] 600000 7302250
def lw_Z (below : List Frame) (a : Array Value) (s : State) : State → Prop := fun t => ∃ o, t.status = .running ∧ Ended t below o ∧ lw_Q a s o t
/-- the law's own end, with 1 on the stack, nothing written that was there before, its room as the claim has it -/
theorem lw_ret {p : Program} {l : Launch} {e : Env} {s : State} {m : MethodId} {below : List Frame} {meth : Method} {c : Code} {b : Nat} (hx : p.tables.exec = Jvm.exec) (hb : c.code = code) (hr : meth.sig.returnType = ret) (hlocks : meth.locks = false) {pc : Nat} {H : Heap} {ls : Array Slot} (hdg : decode code pc = .ok (.ireturn, 1)) : W p l e room_1 s m #[Value.ref b] below meth c H [] 600000 7302250 (lw_Z below #[Value.ref b] s) (F0 m pc ls [.int 1]) := by
  intro T hT X
  obtain ⟨fs, hret, hrun, hended, hW, hframe⟩ := X.leave (v := some (.int 1)) (hlocks := hlocks) (fun h => by rw [hr] at h; cases h)
  have hmeth' : T.vm.method? m = some meth := X.method'
  refine ⟨T.setFrames fs, ?_, .returned (some (.int 1)), hrun, hended, rfl, ⟨_, rfl⟩, hW, hframe⟩
  jvm_step X.here [X.here.top, hx, hb, hdg, hmeth', hr, ret, narrow_b1]
  (try refine ⟨rfl, ?_⟩); (try refine ⟨rfl, ?_⟩)
  first | (intro acts; rw [hret _ acts rfl rfl rfl]) | rw [hret _ _ rfl rfl rfl]
  exact Steps.refl _
/-- what holds at the law's entry: the machine, the code, the tables' words (any of lw_tbl by 'hts w (by decide +kernel)'), the script of L ints xs at the cell b, what the Statement gives of the start (any of its parts by flat_of_before) -/
def lw_At (p : Program) (s : State) (m : MethodId) (meth : Method) (c : Code) (b L : Nat) (xs : Nat → Int32) : Prop :=
  p.tables.exec = Jvm.exec ∧ c.code = code ∧ meth.sig.returnType = ret ∧ c.maxLocals = 4 ∧ s.vm.findClass R_law = some m.cls ∧ (∀ w ∈ lw_tbl, w.before #[Value.ref b] s = true) ∧ va_X b L xs s s.heap ∧ b < s.heap.size ∧ meth.locks = false ∧ (Jvm.Cond.and given_1 narrow_1).before #[Value.ref b] s = true
/-! the law's own run: the script, the class' world and the reference's world side by side -/
def LX (w wm : Wo) (s : State) : Prop := wm.1 = w.1 ∧ wm.2.1 = w.2.1 ∧ wm.2.2.2 = false ∧ va_K w.1 vwCl (tysW w) s ∧ Nb s ∧ Zs w shC s
def PL (l : Launch) (b Lq : Nat) (xs : Nat → Int32) (ce sl : Nat) (w wm : Wo) (pc : Nat) (L : Lo) (st : List Value) (σ τ : St) : Prop :=
  ∀ (p : Program) (e : Env) (s : State) (m : MethodId) (below : List Frame) (meth : Method) (c : Code) (H : Heap) (locs : List Loc) (ls : Array Slot),
    lw_At p s m meth c b Lq xs → LX w wm s → lvA ls 4 L → va_P w.1 vwCl (wsF w σ 0 shC ++ wsF wm τ 0 shM) H → va_D (fun q => s.heap.size ≤ q) (wsF w σ 0 shC ++ wsF wm τ 0 shM) → va_S (fun q => s.heap.size ≤ q) s.heap H locs →
    W p l e room_1 s m #[Value.ref b] below meth c H locs ce sl (lw_Z below #[Value.ref b] s) (F0 m pc ls st)
section PLR
variable {l : Launch} {b Lq : Nat} {xs : Nat → Int32} {ce sl : Nat} {w wm : Wo} {pc pc' : Nat} {L L' : Lo} {st : List Value} {σ τ : St}
theorem pl_aload {k : Fin 4} {x : Nat} (i : Nat) (hd : decode code pc = .ok (.aload_n k, 1)) (hi : (k : Nat) = i) (hL : L[i]? = some (some (.ref x))) (hp : pc + 1 = pc') (h : PL l b Lq xs ce sl w wm pc' L (.ref x :: st) σ τ) : PL l b Lq xs ce sl w wm pc L st σ τ := by
  subst hp
  intro p e s m below meth c H locs ls C X hl hP hD hS
  exact lv_aload_n C.1 C.2.1 hd hi (hl.2.2 i _ hL) (h p e s m below meth c H locs ls C X hl hP hD hS)
theorem pl_iload {k : Fin 4} {x : Int32} (i : Nat) (hd : decode code pc = .ok (.iload_n k, 1)) (hi : (k : Nat) = i) (hL : L[i]? = some (some (.int x))) (hp : pc + 1 = pc') (h : PL l b Lq xs ce sl w wm pc' L (.int x :: st) σ τ) : PL l b Lq xs ce sl w wm pc L st σ τ := by
  subst hp
  intro p e s m below meth c H locs ls C X hl hP hD hS
  exact lv_iload_n C.1 C.2.1 hd hi (hl.2.2 i _ hL) (h p e s m below meth c H locs ls C X hl hP hD hS)
theorem pl_iconst {n : Int} {v : Int32} (hd : decode code pc = .ok (.iconst n, 1)) (hv : Int32.ofInt n = v) (hp : pc + 1 = pc') (h : PL l b Lq xs ce sl w wm pc' L (.int v :: st) σ τ) : PL l b Lq xs ce sl w wm pc L st σ τ := by
  subst hp
  intro p e s m below meth c H locs ls C X hl hP hD hS
  exact lv_iconst C.1 C.2.1 hd hv (h p e s m below meth c H locs ls C X hl hP hD hS)
theorem pl_iadd {x y : Int32} (hd : decode code pc = .ok (.iadd, 1)) (hp : pc + 1 = pc') (h : PL l b Lq xs ce sl w wm pc' L (.int (x + y) :: st) σ τ) : PL l b Lq xs ce sl w wm pc L (.int y :: .int x :: st) σ τ := by
  subst hp
  intro p e s m below meth c H locs ls C X hl hP hD hS
  exact lv_iadd C.1 C.2.1 hd (h p e s m below meth c H locs ls C X hl hP hD hS)
/-- a place of the script -/
theorem pl_sld {i : Int32} (hi : inb i Lq = true) (hd : decode code pc = .ok (.iaload, 1)) (hp : pc + 1 = pc') (h : PL l b Lq xs ce sl w wm pc' L (.int (xs (ix i)) :: st) σ τ) : PL l b Lq xs ce sl w wm pc L (.int i :: .ref b :: st) σ τ := by
  subst hp
  intro p e s m below meth c H locs ls C X hl hP hD hS
  obtain ⟨hx, hb, hr, hml, hown, hts, hX, hbl, hlocks, hgv⟩ := id C
  exact va_sld hx hb hX hbl (Nat.not_le.mpr hbl) hS (inb_in hi) hd (h p e s m below meth c H locs ls C X hl hP hD hS)
end PLR
