section RH
variable {l : Launch} {w : Wo} {S : List Shp} {Y : Mt} {d : Nat} {pc pc' : Nat} {L L' : Lo} {st : List Value} {σ : St}
theorem go_getI {ci N k j z idx : Nat} {C : String} {T : u_T} {ty : Nat → FieldType} {fl : List (Nat × Nat)} (cf : CF ci C T N ty) (hs : S[k]? = some (.inr (ci, fl))) (hf : fl[j]? = some (0, z)) (hj : j < N) (hw : Cond.fieldLink Y.1.cls idx (T j).1 (T j).2.1 (T j).2.2.1 ∈ tb) (hd : decode Y.2.1 pc = .ok (.getfield idx, 3)) (hp : pc + 3 = pc') : Go l w S Y d pc L (.ref k :: st) σ pc' L (.int (σ.1 k j) :: st) σ := by
  subst hp
  intro Post h p e s m args below meth c H locs ls X hl hP hD hS
  exact va_get X.1 X.2.1 X.2.2.2.2.2.1 cf.2.1 X.2.2.2.2.1 X.2.2.2.2.2.2.2.1 hP k (wsF_at hs) cf.1 j hj (X.2.2.2.2.2.1 _ hw) (fun _ h => h) (v := .int (σ.1 k j)) (by rw [fvals_get, hf]; simp [fval]) hd (h p e s m args below meth c H locs ls X hl hP hD hS)
theorem go_getL {ci N k j z idx : Nat} {C : String} {T : u_T} {ty : Nat → FieldType} {fl : List (Nat × Nat)} (cf : CF ci C T N ty) (hs : S[k]? = some (.inr (ci, fl))) (hf : fl[j]? = some (1, z)) (hj : j < N) (hw : Cond.fieldLink Y.1.cls idx (T j).1 (T j).2.1 (T j).2.2.1 ∈ tb) (hd : decode Y.2.1 pc = .ok (.getfield idx, 3)) (hp : pc + 3 = pc') : Go l w S Y d pc L (.ref k :: st) σ pc' L (.long (σ.2 k j) :: st) σ := by
  subst hp
  intro Post h p e s m args below meth c H locs ls X hl hP hD hS
  exact va_get X.1 X.2.1 X.2.2.2.2.2.1 cf.2.1 X.2.2.2.2.1 X.2.2.2.2.2.2.2.1 hP k (wsF_at hs) cf.1 j hj (X.2.2.2.2.2.1 _ hw) (fun _ h => h) (v := .long (σ.2 k j)) (by rw [fvals_get, hf]; simp [fval]) hd (h p e s m args below meth c H locs ls X hl hP hD hS)
theorem go_getR {ci N k j z idx : Nat} {C : String} {T : u_T} {ty : Nat → FieldType} {fl : List (Nat × Nat)} (cf : CF ci C T N ty) (hs : S[k]? = some (.inr (ci, fl))) (hf : fl[j]? = some (2, z)) (hj : j < N) (hw : Cond.fieldLink Y.1.cls idx (T j).1 (T j).2.1 (T j).2.2.1 ∈ tb) (hd : decode Y.2.1 pc = .ok (.getfield idx, 3)) (hp : pc + 3 = pc') : Go l w S Y d pc L (.ref k :: st) σ pc' L (.ref z :: st) σ := by
  subst hp
  intro Post h p e s m args below meth c H locs ls X hl hP hD hS
  exact va_get X.1 X.2.1 X.2.2.2.2.2.1 cf.2.1 X.2.2.2.2.1 X.2.2.2.2.2.2.2.1 hP k (wsF_at hs) cf.1 j hj (X.2.2.2.2.2.1 _ hw) (fun _ h => h) (v := .ref (w.2.2.1 z)) (by rw [fvals_get, hf]; simp [fval]) hd (h p e s m args below meth c H locs ls X hl hP hD hS)
theorem go_putI {ci N k j z idx : Nat} {C : String} {T : u_T} {ty : Nat → FieldType} {fl : List (Nat × Nat)} {v : Int32} (cf : CF ci C T N ty) (hs : S[k]? = some (.inr (ci, fl))) (hf : fl[j]? = some (0, z)) (hj : j < N) (hfin : (T j).2.2.2 = false) (hty : ty j = .int) (hw : Cond.fieldLink Y.1.cls idx (T j).1 (T j).2.1 (T j).2.2.1 ∈ tb) (hd : decode Y.2.1 pc = .ok (.putfield idx, 3)) (hp : pc + 3 = pc') : Go l w S Y d pc L (.int v :: .ref k :: st) σ pc' L st (seti σ k j v) := by
  subst hp
  intro Post h p e s m args below meth c H locs ls X hl hP hD hS
  refine va_put X.1 X.2.1 X.2.2.2.2.2.1 cf.2.1 ty cf.2.2.1 cf.2.2.2 X.2.2.2.2.1 X.2.2.2.2.2.2.2.1 hP hD hS k (wsF_at hs) cf.1 j hj (X.2.2.2.2.2.1 _ hw) (fun _ h => h) hfin (ty := .int) (v := .int v) (by rw [cf.2.2.1 j hj, hty]) rfl rfl (by rw [fvals_len]; exact (List.getElem?_eq_some_iff.mp hf).1) hd ?_
  intro H1 locs1 hP1 hD1 hS1
  have e1 : (wsF w σ 0 S).set k (w.2.2.1 k, .inr (ci, (fvals w σ k 0 fl).set j (.int v))) = wsF w (seti σ k j v) 0 S := wsF_set hs (by show Sum.inr (ci, fvals w (seti σ k j v) k 0 fl) = _; rw [seti_obj hf]) seti_o
  rw [e1] at hP1 hD1
  exact h p e s m args below meth c H1 locs1 ls X hl hP1 hD1 hS1
theorem go_putZ {ci N k j z idx : Nat} {C : String} {T : u_T} {ty : Nat → FieldType} {fl : List (Nat × Nat)} {v : Int32} (hv : v = 0 ∨ v = 1) (cf : CF ci C T N ty) (hs : S[k]? = some (.inr (ci, fl))) (hf : fl[j]? = some (0, z)) (hj : j < N) (hfin : (T j).2.2.2 = false) (hty : ty j = .boolean) (hw : Cond.fieldLink Y.1.cls idx (T j).1 (T j).2.1 (T j).2.2.1 ∈ tb) (hd : decode Y.2.1 pc = .ok (.putfield idx, 3)) (hp : pc + 3 = pc') : Go l w S Y d pc L (.int v :: .ref k :: st) σ pc' L st (seti σ k j v) := by
  subst hp
  intro Post h p e s m args below meth c H locs ls X hl hP hD hS
  refine va_put X.1 X.2.1 X.2.2.2.2.2.1 cf.2.1 ty cf.2.2.1 cf.2.2.2 X.2.2.2.2.1 X.2.2.2.2.2.2.2.1 hP hD hS k (wsF_at hs) cf.1 j hj (X.2.2.2.2.2.1 _ hw) (fun _ h => h) hfin (ty := .boolean) (v := .int v) (by rw [cf.2.2.1 j hj, hty]) (by rcases hv with rfl | rfl <;> rfl) (by rcases hv with rfl | rfl <;> rfl) (by rw [fvals_len]; exact (List.getElem?_eq_some_iff.mp hf).1) hd ?_
  intro H1 locs1 hP1 hD1 hS1
  have e1 : (wsF w σ 0 S).set k (w.2.2.1 k, .inr (ci, (fvals w σ k 0 fl).set j (.int v))) = wsF w (seti σ k j v) 0 S := wsF_set hs (by show Sum.inr (ci, fvals w (seti σ k j v) k 0 fl) = _; rw [seti_obj hf]) seti_o
  rw [e1] at hP1 hD1
  exact h p e s m args below meth c H1 locs1 ls X hl hP1 hD1 hS1
theorem go_putL {ci N k j z idx : Nat} {C : String} {T : u_T} {ty : Nat → FieldType} {fl : List (Nat × Nat)} {v : Int64} (cf : CF ci C T N ty) (hs : S[k]? = some (.inr (ci, fl))) (hf : fl[j]? = some (1, z)) (hj : j < N) (hfin : (T j).2.2.2 = false) (hty : ty j = .long) (hw : Cond.fieldLink Y.1.cls idx (T j).1 (T j).2.1 (T j).2.2.1 ∈ tb) (hd : decode Y.2.1 pc = .ok (.putfield idx, 3)) (hp : pc + 3 = pc') : Go l w S Y d pc L (.long v :: .ref k :: st) σ pc' L st (setl σ k j v) := by
  subst hp
  intro Post h p e s m args below meth c H locs ls X hl hP hD hS
  refine va_put X.1 X.2.1 X.2.2.2.2.2.1 cf.2.1 ty cf.2.2.1 cf.2.2.2 X.2.2.2.2.1 X.2.2.2.2.2.2.2.1 hP hD hS k (wsF_at hs) cf.1 j hj (X.2.2.2.2.2.1 _ hw) (fun _ h => h) hfin (ty := .long) (v := .long v) (by rw [cf.2.2.1 j hj, hty]) rfl rfl (by rw [fvals_len]; exact (List.getElem?_eq_some_iff.mp hf).1) hd ?_
  intro H1 locs1 hP1 hD1 hS1
  have e1 : (wsF w σ 0 S).set k (w.2.2.1 k, .inr (ci, (fvals w σ k 0 fl).set j (.long v))) = wsF w (setl σ k j v) 0 S := wsF_set hs (by show Sum.inr (ci, fvals w (setl σ k j v) k 0 fl) = _; rw [setl_obj hf]) setl_o
  rw [e1] at hP1 hD1
  exact h p e s m args below meth c H1 locs1 ls X hl hP1 hD1 hS1
/-- an index within a row -/
def inb (i : Int32) (n : Nat) : Bool := decide (0 ≤ i) && decide (i.toNatClampNeg < n)
theorem inb_in {i : Int32} {n : Nat} (h : inb i n = true) : vp_in i n := by
  simp only [inb, Bool.and_eq_true, decide_eq_true_eq] at h
  rintro (q | q)
  · exact absurd h.1 (Int32.not_le.mpr q)
  · omega
abbrev ix (i : Int32) : Nat := i.toNatClampNeg
theorem go_iald {k n : Nat} {i : Int32} (hs : S[k]? = some (.inl (0, n))) (hi : inb i n = true) (hd : decode Y.2.1 pc = .ok (.iaload, 1)) (hp : pc + 1 = pc') : Go l w S Y d pc L (.int i :: .ref k :: st) σ pc' L (.int (σ.1 k (ix i)) :: st) σ := by
  subst hp
  intro Post h p e s m args below meth c H locs ls X hl hP hD hS
  exact va_iald X.1 X.2.1 X.2.2.2.2.2.2.2.1 hP k 0 (cA := w.2.1 0) (n := n) (f := σ.1 k) (wsF_at hs) rfl (inb_in hi) hd (h p e s m args below meth c H locs ls X hl hP hD hS)
theorem go_bald {k n : Nat} {i : Int32} (hs : S[k]? = some (.inl (2, n))) (hi : inb i n = true) (hd : decode Y.2.1 pc = .ok (.baload, 1)) (hp : pc + 1 = pc') : Go l w S Y d pc L (.int i :: .ref k :: st) σ pc' L (.int (σ.1 k (ix i)) :: st) σ := by
  subst hp
  intro Post h p e s m args below meth c H locs ls X hl hP hD hS
  exact va_bald X.1 X.2.1 X.2.2.2.2.2.2.2.1 hP k 2 (cA := w.2.1 2) (n := n) (f := σ.1 k) (wsF_at hs) rfl (inb_in hi) hd (h p e s m args below meth c H locs ls X hl hP hD hS)
theorem go_zald {k n : Nat} {i : Int32} (hs : S[k]? = some (.inl (3, n))) (hi : inb i n = true) (hd : decode Y.2.1 pc = .ok (.baload, 1)) (hp : pc + 1 = pc') : Go l w S Y d pc L (.int i :: .ref k :: st) σ pc' L (.int (σ.1 k (ix i)) :: st) σ := by
  subst hp
  intro Post h p e s m args below meth c H locs ls X hl hP hD hS
  exact va_zald X.1 X.2.1 X.2.2.2.2.2.2.2.1 hP k 3 (cA := w.2.1 3) (n := n) (f := σ.1 k) (wsF_at hs) rfl (inb_in hi) hd (h p e s m args below meth c H locs ls X hl hP hD hS)
theorem go_lald {k n : Nat} {i : Int32} (hs : S[k]? = some (.inl (1, n))) (hi : inb i n = true) (hd : decode Y.2.1 pc = .ok (.laload, 1)) (hp : pc + 1 = pc') : Go l w S Y d pc L (.int i :: .ref k :: st) σ pc' L (.long (σ.2 k (ix i)) :: st) σ := by
  subst hp
  intro Post h p e s m args below meth c H locs ls X hl hP hD hS
  exact va_lald X.1 X.2.1 X.2.2.2.2.2.2.2.1 hP k 1 (cA := w.2.1 1) (n := n) (f := σ.2 k) (wsF_at hs) rfl (inb_in hi) hd (h p e s m args below meth c H locs ls X hl hP hD hS)
theorem go_aald {k n b : Nat} {i : Int32} (hs : S[k]? = some (.inl (b + 4, n))) (hi : inb i n = true) (hd : decode Y.2.1 pc = .ok (.aaload, 1)) (hp : pc + 1 = pc') : Go l w S Y d pc L (.int i :: .ref k :: st) σ pc' L (.ref (b + 4 + 4 * ix i) :: st) σ := by
  subst hp
  intro Post h p e s m args below meth c H locs ls X hl hP hD hS
  exact va_aldq X.1 X.2.1 X.2.2.2.2.2.2.2.1 hP k 4 (cA := w.2.1 4) (C := "HeadNets$Net") (n := n) (f := fun j => some (w.2.2.1 (b + 4 + 4 * j))) (wsF_at hs) rfl (inb_in hi) hd (h p e s m args below meth c H locs ls X hl hP hD hS)
theorem go_iast {k n : Nat} {i x : Int32} (hs : S[k]? = some (.inl (0, n))) (hi : inb i n = true) (hd : decode Y.2.1 pc = .ok (.iastore, 1)) (hp : pc + 1 = pc') : Go l w S Y d pc L (.int x :: .int i :: .ref k :: st) σ pc' L st (seti σ k (ix i) x) := by
  subst hp
  intro Post h p e s m args below meth c H locs ls X hl hP hD hS
  refine va_iast X.1 X.2.1 X.2.2.2.2.2.2.2.1 hP hD hS k 0 (cA := w.2.1 0) (n := n) (f := σ.1 k) (wsF_at hs) rfl (inb_in hi) hd ?_
  intro H1 locs1 hP1 hD1 hS1
  have e1 : (wsF w σ 0 S).set k (w.2.2.1 k, .inl (w.2.1 0, n, .inl (upd (σ.1 k) i.toNatClampNeg x))) = wsF w (seti σ k (ix i) x) 0 S := wsF_set hs (by show Sum.inl (w.2.1 0, n, Sum.inl ((seti σ k (ix i) x).1 k)) = _; rw [seti_row]) seti_o
  rw [e1] at hP1 hD1
  exact h p e s m args below meth c H1 locs1 ls X hl hP1 hD1 hS1
theorem go_bast {k n : Nat} {i x : Int32} (hs : S[k]? = some (.inl (2, n))) (hi : inb i n = true) (hd : decode Y.2.1 pc = .ok (.bastore, 1)) (hp : pc + 1 = pc') : Go l w S Y d pc L (.int x :: .int i :: .ref k :: st) σ pc' L st (seti σ k (ix i) x.toInt8.toInt32) := by
  subst hp
  intro Post h p e s m args below meth c H locs ls X hl hP hD hS
  refine va_bast X.1 X.2.1 X.2.2.2.2.2.2.2.1 hP hD hS k 2 (cA := w.2.1 2) (n := n) (f := σ.1 k) (wsF_at hs) rfl (inb_in hi) hd ?_
  intro H1 locs1 hP1 hD1 hS1
  have e1 : (wsF w σ 0 S).set k (w.2.2.1 k, .inl (w.2.1 2, n, .inl (upd (σ.1 k) i.toNatClampNeg (vp_nar .byte x)))) = wsF w (seti σ k (ix i) x.toInt8.toInt32) 0 S := wsF_set hs (by show Sum.inl (w.2.1 2, n, Sum.inl ((seti σ k (ix i) x.toInt8.toInt32).1 k)) = _; rw [seti_row, vp_nar_byte]) seti_o
  rw [e1] at hP1 hD1
  exact h p e s m args below meth c H1 locs1 ls X hl hP1 hD1 hS1
theorem go_zast {k n : Nat} {i x : Int32} (hx : x = 0 ∨ x = 1) (hs : S[k]? = some (.inl (3, n))) (hi : inb i n = true) (hd : decode Y.2.1 pc = .ok (.bastore, 1)) (hp : pc + 1 = pc') : Go l w S Y d pc L (.int x :: .int i :: .ref k :: st) σ pc' L st (seti σ k (ix i) x) := by
  subst hp
  intro Post h p e s m args below meth c H locs ls X hl hP hD hS
  refine va_zast X.1 X.2.1 X.2.2.2.2.2.2.2.1 hP hD hS k 3 (cA := w.2.1 3) (n := n) (f := σ.1 k) (wsF_at hs) rfl (inb_in hi) hd ?_
  intro H1 locs1 hP1 hD1 hS1
  have e0 : vp_nar .boolean x = x := by rcases hx with rfl | rfl <;> rfl
  have e1 : (wsF w σ 0 S).set k (w.2.2.1 k, .inl (w.2.1 3, n, .inl (upd (σ.1 k) i.toNatClampNeg (vp_nar .boolean x)))) = wsF w (seti σ k (ix i) x) 0 S := wsF_set hs (by show Sum.inl (w.2.1 3, n, Sum.inl ((seti σ k (ix i) x).1 k)) = _; rw [seti_row, e0]) seti_o
  rw [e1] at hP1 hD1
  exact h p e s m args below meth c H1 locs1 ls X hl hP1 hD1 hS1
theorem go_last {k n : Nat} {i : Int32} {x : Int64} (hs : S[k]? = some (.inl (1, n))) (hi : inb i n = true) (hd : decode Y.2.1 pc = .ok (.lastore, 1)) (hp : pc + 1 = pc') : Go l w S Y d pc L (.long x :: .int i :: .ref k :: st) σ pc' L st (setl σ k (ix i) x) := by
  subst hp
  intro Post h p e s m args below meth c H locs ls X hl hP hD hS
  refine va_last X.1 X.2.1 X.2.2.2.2.2.2.2.1 hP hD hS k 1 (cA := w.2.1 1) (n := n) (f := σ.2 k) (wsF_at hs) rfl (inb_in hi) hd ?_
  intro H1 locs1 hP1 hD1 hS1
  have e1 : (wsF w σ 0 S).set k (w.2.2.1 k, .inl (w.2.1 1, n, .inr (.inl (vp_updL (σ.2 k) i.toNatClampNeg x)))) = wsF w (setl σ k (ix i) x) 0 S := wsF_set hs (by show Sum.inl (w.2.1 1, n, Sum.inr (Sum.inl ((setl σ k (ix i) x).2 k))) = _; rw [setl_row]) setl_o
  rw [e1] at hP1 hD1
  exact h p e s m args below meth c H1 locs1 ls X hl hP1 hD1 hS1
theorem go_alen {k n : Nat} {v : Int32} (hs : S[k]? = some (.inl (0, n))) (hv : Int32.ofNat n = v) (hd : decode Y.2.1 pc = .ok (.arraylength, 1)) (hp : pc + 1 = pc') : Go l w S Y d pc L (.ref k :: st) σ pc' L (.int v :: st) σ := by
  subst hp
  intro Post h p e s m args below meth c H locs ls X hl hP hD hS
  exact va_alen X.1 X.2.1 X.2.2.2.2.2.2.2.1 hP k 0 (cA := w.2.1 0) (x := (n, .inl (σ.1 k))) (wsF_at hs) (ty := .int) rfl hv hd (h p e s m args below meth c H locs ls X hl hP hD hS)
theorem go_alenR {k n b : Nat} {v : Int32} (hs : S[k]? = some (.inl (b + 4, n))) (hv : Int32.ofNat n = v) (hd : decode Y.2.1 pc = .ok (.arraylength, 1)) (hp : pc + 1 = pc') : Go l w S Y d pc L (.ref k :: st) σ pc' L (.int v :: st) σ := by
  subst hp
  intro Post h p e s m args below meth c H locs ls X hl hP hD hS
  exact va_alen X.1 X.2.1 X.2.2.2.2.2.2.2.1 hP k 4 (cA := w.2.1 4) (x := (n, .inr (.inr (.inr (.inr (fun j => some (w.2.2.1 (b + 4 + 4 * j)))))))) (wsF_at hs) (ty := .object "HeadNets$Net") rfl hv hd (h p e s m args below meth c H locs ls X hl hP hD hS)
/-- System.arraycopy of ints -/
theorem go_copy {k k' n n' idx : Nat} {sp dp m' : Int32} (hs : S[k]? = some (.inl (0, n))) (hs' : S[k']? = some (.inl (0, n'))) (h1 : ¬ sp < 0) (h2 : ¬ dp < 0) (h3 : ¬ m' < 0) (h4 : ix sp + ix m' ≤ n) (h5 : ix dp + ix m' ≤ n') (hd0 : 1 ≤ d) (hst : st = []) (hw : Cond.methodLink Y.1.cls idx arraycopyName ∈ tb) (hd : decode Y.2.1 pc = .ok (.invokestatic idx, 3)) (hp : pc + 3 = pc') : Go l w S Y d pc L (.int m' :: .int dp :: .ref k' :: .int sp :: .ref k :: st) σ pc' L st (setr σ k' (va_cpy (σ.1 k) (σ.1 k') (ix sp) (ix dp) (ix m'))) := by
  subst hp; subst hst
  intro Post h p e s m args below meth c H locs ls X hl hP hD hS
  have hroom : (([] : List Value).map fun v => v.category).sum + (nativeFrameWords "java/lang/System" "arraycopy" 5 + 11) ≤ (rmD d).locals := by
    have h9 : nativeFrameWords "java/lang/System" "arraycopy" 5 + 11 ≤ 80 := by decide
    show 0 + (nativeFrameWords "java/lang/System" "arraycopy" 5 + 11) ≤ 80 * d
    omega
  refine va_copyi X.1 X.2.1 (by rw [X.2.2.1, hl.1]) X.2.2.2.2.1 (X.2.2.2.2.2.1 _ hw) (X.2.2.2.2.2.1 (.native arraycopyName) (tb_at 1075 (by decide +kernel) rfl)) (X.2.2.2.2.2.1 (.static arraycopyName) (tb_at 1074 (by decide +kernel) rfl)) (X.2.2.2.2.2.1 (.initialized "java/lang/System") (tb_at 21 (by decide +kernel) rfl)) X.2.2.2.2.2.2.2.1 hP hD hS k k' 0 0 (c0 := w.2.1 0) (c1 := w.2.1 0) (n0 := n) (n1 := n') (f := σ.1 k) (g := σ.1 k') (ty := .int) (wsF_at hs) (wsF_at hs') rfl rfl rfl h1 h2 h3 h4 h5 (fun _ _ => rfl) hd0 hroom hd ?_
  intro H1 locs1 hP1 hD1 hS1
  have e1 : (wsF w σ 0 S).set k' (w.2.2.1 k', .inl (w.2.1 0, n', .inl (va_cpy (σ.1 k) (σ.1 k') sp.toNatClampNeg dp.toNatClampNeg m'.toNatClampNeg))) = wsF w (setr σ k' (va_cpy (σ.1 k) (σ.1 k') (ix sp) (ix dp) (ix m'))) 0 S := wsF_set hs' (by show Sum.inl (w.2.1 0, n', Sum.inl ((setr σ k' (va_cpy (σ.1 k) (σ.1 k') (ix sp) (ix dp) (ix m'))).1 k')) = _; rw [setr_row]) setr_o
  rw [e1] at hP1 hD1
  exact h p e s m args below meth c H1 locs1 ls X hl hP1 hD1 hS1
end RH
