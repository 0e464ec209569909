/-! the law's own run: more steps -/
theorem AW_mem {w : Wo} {σ : St} {S : List Shp} {k : Nat} {q : Nat × va_E} (h : (wsF w σ 0 S)[k]? = some q) : AW w S q.1 := by
  rw [wsF_get] at h
  cases hs : S[k]? with
  | none => rw [hs] at h; cases h
  | some sh =>
    rw [hs] at h
    simp only [Option.map_some, Nat.zero_add, Option.some.injEq] at h
    exact ⟨k, (List.getElem?_eq_some_iff.mp hs).1, by rw [← h]⟩
theorem app_l {α : Type} {A B : List α} {k : Nat} {q : α} (h : A[k]? = some q) : (A ++ B)[k]? = some q := by
  rw [List.getElem?_append_left (List.getElem?_eq_some_iff.mp h).1]
  exact h
theorem app_r {α : Type} {A B : List α} {k : Nat} {q : α} (h : B[k]? = some q) : (A ++ B)[A.length + k]? = some q := by
  rw [List.getElem?_append_right (by omega), show A.length + k - A.length = k by omega]
  exact h
section PLS
variable {l : Launch} {b Lq : Nat} {xs : Nat → Int32} {ce sl : Nat} {w wm : Wo} {pc pc' : Nat} {L L' : Lo} {st rest : List Value} {σ τ : St}
theorem pl_bipush {n : Int} {v : Int32} (hd : decode code pc = .ok (.bipush n, 2)) (hv : (Int8.ofInt n).toInt32 = v) (hp : pc + 2 = pc') (h : PL l b Lq xs ce sl w wm pc' L (.int v :: st) σ τ) : PL l b Lq xs ce sl w wm pc L st σ τ := by
  subst hp
  intro p e s m below meth c H locs ls C X hl hP hD hS
  exact lv_bipush C.1 C.2.1 hd hv (h p e s m below meth c H locs ls C X hl hP hD hS)
theorem pl_isub {x y : Int32} (hd : decode code pc = .ok (.isub, 1)) (hp : pc + 1 = pc') (h : PL l b Lq xs ce sl w wm pc' L (.int (x - y) :: st) σ τ) : PL l b Lq xs ce sl w wm pc L (.int y :: .int x :: st) σ τ := by
  subst hp
  intro p e s m below meth c H locs ls C X hl hP hD hS
  exact lv_isub C.1 C.2.1 hd (h p e s m below meth c H locs ls C X hl hP hD hS)
theorem pl_iand {x y : Int32} (hd : decode code pc = .ok (.iand, 1)) (hp : pc + 1 = pc') (h : PL l b Lq xs ce sl w wm pc' L (.int (x &&& y) :: st) σ τ) : PL l b Lq xs ce sl w wm pc L (.int y :: .int x :: st) σ τ := by
  subst hp
  intro p e s m below meth c H locs ls C X hl hP hD hS
  exact lv_iand C.1 C.2.1 hd (h p e s m below meth c H locs ls C X hl hP hD hS)
theorem pl_slen (hd : decode code pc = .ok (.arraylength, 1)) (hp : pc + 1 = pc') (h : PL l b Lq xs ce sl w wm pc' L (.int (Int32.ofNat Lq) :: st) σ τ) : PL l b Lq xs ce sl w wm pc L (.ref b :: st) σ τ := by
  subst hp
  intro p e s m below meth c H locs ls C X hl hP hD hS
  obtain ⟨hx, hb, hr, hml, hown, hts, hX, hbl, hlocks, hgv⟩ := id C
  exact va_slen hx hb hX hbl (Nat.not_le.mpr hbl) hS hd (h p e s m below meth c H locs ls C X hl hP hD hS)
theorem pl_gt {x y : Int32} {off : Int} {tgt : Nat} (hd : decode code pc = .ok (.if_icmp .gt off, 3)) (ht : (pc : Int) + off = (tgt : Int)) (hp : pc + 3 = pc') (h1 : y < x → PL l b Lq xs ce sl w wm tgt L st σ τ) (h2 : ¬ y < x → PL l b Lq xs ce sl w wm pc' L st σ τ) : PL l b Lq xs ce sl w wm pc L (.int y :: .int x :: st) σ τ := by
  subst hp
  intro p e s m below meth c H locs ls C X hl hP hD hS
  exact lv_icmp_gt C.1 C.2.1 hd ht (fun q => h1 q p e s m below meth c H locs ls C X hl hP hD hS) (fun q => h2 q p e s m below meth c H locs ls C X hl hP hD hS)
theorem pl_eqT {x : Int32} {off : Int} {tgt : Nat} (hd : decode code pc = .ok (.if_icmp .eq off, 3)) (ht : (pc : Int) + off = (tgt : Int)) (h1 : PL l b Lq xs ce sl w wm tgt L st σ τ) : PL l b Lq xs ce sl w wm pc L (.int x :: .int x :: st) σ τ := by
  intro p e s m below meth c H locs ls C X hl hP hD hS
  exact lv_icmp_eq C.1 C.2.1 hd ht (fun q => h1 p e s m below meth c H locs ls C X hl hP hD hS) (fun q => absurd rfl q)
theorem pl_goto {off : Int} (hd : decode code pc = .ok (.goto off, 3)) (ht : (pc : Int) + off = (pc' : Int)) (h : PL l b Lq xs ce sl w wm pc' L st σ τ) : PL l b Lq xs ce sl w wm pc L st σ τ := by
  intro p e s m below meth c H locs ls C X hl hP hD hS
  exact lv_goto C.1 C.2.1 hd ht (h p e s m below meth c H locs ls C X hl hP hD hS)
theorem pl_tabO {dflt lo hi : Int} {offs : Array Int} {len : Nat} {x : Int32} (h1 : x.toInt < lo ∨ hi < x.toInt) (ht : (pc : Int) + dflt = (pc' : Int)) (hd : decode code pc = .ok (.tableswitch dflt lo hi offs, len)) (h : PL l b Lq xs ce sl w wm pc' L st σ τ) : PL l b Lq xs ce sl w wm pc L (.int x :: st) σ τ := by
  intro p e s m below meth c H locs ls C X hl hP hD hS
  exact lv_tableOut C.1 C.2.1 hd h1 ht (h p e s m below meth c H locs ls C X hl hP hD hS)
theorem pl_tabI {dflt lo hi : Int} {offs : Array Int} {len : Nat} {x : Int32} {off : Int} (h1 : ¬ x.toInt < lo) (h2 : ¬ hi < x.toInt) (ho : offs[(x.toInt - lo).toNat]? = some off) (ht : (pc : Int) + off = (pc' : Int)) (hd : decode code pc = .ok (.tableswitch dflt lo hi offs, len)) (h : PL l b Lq xs ce sl w wm pc' L st σ τ) : PL l b Lq xs ce sl w wm pc L (.int x :: st) σ τ := by
  intro p e s m below meth c H locs ls C X hl hP hD hS
  exact lv_tableIn C.1 C.2.1 hd h1 h2 ho ht (h p e s m below meth c H locs ls C X hl hP hD hS)
def L4 (b x1 x2 : Nat) (i : Int32) : Lo := [some (.ref b), some (.ref x1), some (.ref x2), some (.int i)]
theorem L4.has {ls : Array Slot} {x1 x2 : Nat} {i : Int32} (h : lvA ls 4 (L4 b x1 x2 i)) : lv_has ls 4 [(0, .ref b), (1, .ref x1), (2, .ref x2), (3, .int i)] := by
  refine ⟨h.1, h.2.1, fun q hq => ?_⟩
  simp only [List.mem_cons, List.not_mem_nil, or_false] at hq
  rcases hq with rfl | rfl | rfl | rfl
  · exact h.2.2 0 _ rfl
  · exact h.2.2 1 _ rfl
  · exact h.2.2 2 _ rfl
  · exact h.2.2 3 _ rfl
theorem L4.of {ls : Array Slot} {x1 x2 : Nat} {i : Int32} {lv : List (Nat × Value)} (h : lv_has ls 4 lv) (h0 : (0, Value.ref b) ∈ lv) (h1 : (1, Value.ref x1) ∈ lv) (h2 : (2, Value.ref x2) ∈ lv) (h3 : (3, Value.int i) ∈ lv) : lvA ls 4 (L4 b x1 x2 i) := by
  refine ⟨h.1, h.2.1, fun j v hj => ?_⟩
  match j, hj with
  | 0, hj => cases hj; exact h.2.2 _ h0
  | 1, hj => cases hj; exact h.2.2 _ h1
  | 2, hj => cases hj; exact h.2.2 _ h2
  | 3, hj => cases hj; exact h.2.2 _ h3
  | j + 4, hj => simp [L4] at hj
theorem pl_iinc {n : Int} {x1 x2 : Nat} {i v : Int32} (hd : decode code pc = .ok (.iinc 3 n, 3)) (hv : i + Int32.ofInt n = v) (hp : pc + 3 = pc') (h : PL l b Lq xs ce sl w wm pc' (L4 b x1 x2 v) st σ τ) : PL l b Lq xs ce sl w wm pc (L4 b x1 x2 i) st σ τ := by
  subst hp
  intro p e s m below meth c H locs ls C X hl hP hD hS
  refine lv_iinc (k := 3) (lv' := [(3, .int v), (0, .ref b), (1, .ref x1), (2, .ref x2)]) C.1 C.2.1 hd (L4.has hl) rfl hv (by decide) rfl (fun ls' h' => ?_)
  exact h p e s m below meth c H locs ls' C X (L4.of h' (by simp) (by simp) (by simp) (by simp)) hP hD hS
theorem pl_ret (hce : ce ≤ 600000) (hsl : sl ≤ 7302250) (hd : decode code pc = .ok (.ireturn, 1)) : PL l b Lq xs ce sl w wm pc L [.int 1] σ τ := by
  intro p e s m below meth c H locs ls C X hl hP hD hS
  obtain ⟨hx, hb, hr, hml, hown, hts, hX, hbl, hlocks, hgv⟩ := id C
  refine va_forget (fun q hq => hS.2.2 q hq) ?_
  refine W.widen (k := 600000) (n := 7302250) hce hsl ?_
  exact lw_ret hx hb hr hlocks hd
end PLS
