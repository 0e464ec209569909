/-! the logic: a method's frame over a world of numbered cells whose references never change -/
def tb : List Cond := lw_tbl.filter goodWord
theorem tb_of {w : Cond} (h : w ∈ tables_1) (hg : goodWord w = true) : w ∈ tb := List.mem_filter.mpr ⟨List.mem_append_right _ h, hg⟩
theorem tb_at {w : Cond} (i : Nat) (h : tables_1[i]? = some w) (hg : goodWord w = true) : w ∈ tb := tb_of (List.mem_of_getElem? h) hg
theorem tb_sel {q : MethodName × Nat} (h : q ∈ lw_privs) (hg : goodWord (Cond.selects q.1.cls q.1 q.1) = true) : Cond.selects q.1.cls q.1 q.1 ∈ tb :=
  List.mem_filter.mpr ⟨List.mem_append_left _ (List.mem_map.mpr ⟨q, h, rfl⟩), hg⟩
theorem tb_good : ∀ w ∈ tb, (w.onTables && w.keeps) = true ∨ ∃ ty, w = .arrayClass ty := fun _ h => good_of_word (List.mem_filter.mp h).2
theorem tb_lw : ∀ w ∈ tb, w ∈ lw_tbl := fun _ h => (List.mem_filter.mp h).1
abbrev St : Type := (Nat → Nat → Int32) × (Nat → Nat → Int64)
abbrev Shp : Type := (Nat × Nat) ⊕ (Nat × List (Nat × Nat))
/-- class ids and slots, array class ids, addresses, whether the text constant is at hand -/
abbrev Wo : Type := va_G × (Nat → ClassId) × (Nat → Nat) × Bool
def seti (σ : St) (k j : Nat) (v : Int32) : St := (fun a b => if a = k ∧ b = j then v else σ.1 a b, σ.2)
def setl (σ : St) (k j : Nat) (v : Int64) : St := (σ.1, fun a b => if a = k ∧ b = j then v else σ.2 a b)
/-- a whole row at once -/
def setr (σ : St) (k : Nat) (f : Nat → Int32) : St := (fun a b => if a = k then f b else σ.1 a b, σ.2)
def tv (w : Wo) (v : Value) : Value := match v with
  | .ref k => .ref (w.2.2.1 k)
  | v => v
def fval (w : Wo) (σ : St) (k j : Nat) (f : Nat × Nat) : Value := match f.1 with
  | 0 => .int (σ.1 k j)
  | 1 => .long (σ.2 k j)
  | _ => .ref (w.2.2.1 f.2)
def fvals (w : Wo) (σ : St) (k : Nat) : Nat → List (Nat × Nat) → List Value
  | _, [] => []
  | j, f :: r => fval w σ k j f :: fvals w σ k (j + 1) r
def rowE (w : Wo) (σ : St) (k t n : Nat) : va_E := match t with
  | 0 => .inl (w.2.1 0, n, .inl (σ.1 k))
  | 1 => .inl (w.2.1 1, n, .inr (.inl (σ.2 k)))
  | 2 => .inl (w.2.1 2, n, .inl (σ.1 k))
  | 3 => .inl (w.2.1 3, n, .inl (σ.1 k))
  | b => .inl (w.2.1 4, n, .inr (.inr (.inr (.inr (fun j => some (w.2.2.1 (b + 4 * j)))))))
def ent (w : Wo) (σ : St) (k : Nat) (sh : Shp) : va_E := match sh with
  | .inl q => rowE w σ k q.1 q.2
  | .inr q => .inr (q.1, fvals w σ k 0 q.2)
def wsF (w : Wo) (σ : St) : Nat → List Shp → va_W
  | _, [] => []
  | k, sh :: r => (w.2.2.1 k, ent w σ k sh) :: wsF w σ (k + 1) r
theorem fvals_get (w : Wo) (σ : St) (k : Nat) : ∀ (fl : List (Nat × Nat)) (j i : Nat), (fvals w σ k j fl)[i]? = (fl[i]?).map (fun f => fval w σ k (j + i) f)
  | [], j, i => by simp [fvals]
  | f :: r, j, 0 => by simp [fvals]
  | f :: r, j, i + 1 => by
    rw [fvals, List.getElem?_cons_succ, List.getElem?_cons_succ, fvals_get w σ k r (j + 1) i]
    rw [show j + 1 + i = j + (i + 1) by omega]
theorem fvals_len (w : Wo) (σ : St) (k : Nat) : ∀ (fl : List (Nat × Nat)) (j : Nat), (fvals w σ k j fl).length = fl.length
  | [], j => rfl
  | f :: r, j => by simp [fvals, fvals_len w σ k r (j + 1)]
theorem wsF_get (w : Wo) (σ : St) : ∀ (T : List Shp) (k i : Nat), (wsF w σ k T)[i]? = (T[i]?).map (fun sh => (w.2.2.1 (k + i), ent w σ (k + i) sh))
  | [], k, i => by simp [wsF]
  | f :: r, k, 0 => by simp [wsF]
  | f :: r, k, i + 1 => by
    rw [wsF, List.getElem?_cons_succ, List.getElem?_cons_succ, wsF_get w σ r (k + 1) i]
    rw [show k + 1 + i = k + (i + 1) by omega]
theorem wsF_at {w : Wo} {σ : St} {T : List Shp} {k : Nat} {sh : Shp} (h : T[k]? = some sh) : (wsF w σ 0 T)[k]? = some (w.2.2.1 k, ent w σ k sh) := by
  rw [wsF_get, h]
  simp
/-- a cell changes: the world of the new state -/
theorem wsF_set {w : Wo} {σ σ' : St} {T : List Shp} {k : Nat} {sh : Shp} {e : va_E} (h : T[k]? = some sh) (he : ent w σ' k sh = e) (ho : ∀ k' sh', k' ≠ k → ent w σ' k' sh' = ent w σ k' sh') : (wsF w σ 0 T).set k (w.2.2.1 k, e) = wsF w σ' 0 T := by
  apply List.ext_getElem?
  intro i
  have hl : k < (wsF w σ 0 T).length := (List.getElem?_eq_some_iff.mp (wsF_at (w := w) (σ := σ) h)).1
  by_cases hik : i = k
  · subst hik
    rw [List.getElem?_set_self hl, wsF_at (σ := σ') h, he]
  · rw [List.getElem?_set_ne (Ne.symm hik), wsF_get, wsF_get]
    cases hT : T[i]? with
    | none => rfl
    | some sh' =>
      simp only [Option.map_some, Nat.zero_add]
      rw [ho i sh' hik]
theorem fvals_congr {w : Wo} {σ σ' : St} {k : Nat} (h1 : ∀ j, σ'.1 k j = σ.1 k j) (h2 : ∀ j, σ'.2 k j = σ.2 k j) : ∀ (fl : List (Nat × Nat)) (j : Nat), fvals w σ' k j fl = fvals w σ k j fl
  | [], _ => rfl
  | f :: r, j => by
    have : fval w σ' k j f = fval w σ k j f := by
      unfold fval
      rw [h1, h2]
    rw [fvals, fvals, this, fvals_congr h1 h2 r (j + 1)]
theorem ent_congr {w : Wo} {σ σ' : St} {k : Nat} (h1 : ∀ j, σ'.1 k j = σ.1 k j) (h2 : ∀ j, σ'.2 k j = σ.2 k j) (sh : Shp) : ent w σ' k sh = ent w σ k sh := by
  have e1 : σ'.1 k = σ.1 k := funext h1
  have e2 : σ'.2 k = σ.2 k := funext h2
  cases sh with
  | inl q =>
    show rowE w σ' k q.1 q.2 = rowE w σ k q.1 q.2
    unfold rowE
    rw [e1, e2]
  | inr q =>
    show Sum.inr (q.1, fvals w σ' k 0 q.2) = Sum.inr (q.1, fvals w σ k 0 q.2)
    rw [fvals_congr h1 h2]
theorem seti_o {w : Wo} {σ : St} {k j : Nat} {v : Int32} : ∀ k' sh', k' ≠ k → ent w (seti σ k j v) k' sh' = ent w σ k' sh' := fun k' sh' h =>
  ent_congr (σ := σ) (σ' := seti σ k j v) (fun b => by simp [seti, h]) (fun b => rfl) sh'
theorem setl_o {w : Wo} {σ : St} {k j : Nat} {v : Int64} : ∀ k' sh', k' ≠ k → ent w (setl σ k j v) k' sh' = ent w σ k' sh' := fun k' sh' h =>
  ent_congr (σ := σ) (σ' := setl σ k j v) (fun b => rfl) (fun b => by simp [setl, h]) sh'
theorem setr_o {w : Wo} {σ : St} {k : Nat} {f : Nat → Int32} : ∀ k' sh', k' ≠ k → ent w (setr σ k f) k' sh' = ent w σ k' sh' := fun k' sh' h =>
  ent_congr (σ := σ) (σ' := setr σ k f) (fun b => by simp [setr, h]) (fun b => rfl) sh'
theorem seti_row {σ : St} {k j : Nat} {v : Int32} : (seti σ k j v).1 k = upd (σ.1 k) j v := by
  funext b
  simp [seti, upd]
theorem setl_row {σ : St} {k j : Nat} {v : Int64} : (setl σ k j v).2 k = vp_updL (σ.2 k) j v := by
  funext b
  simp [setl, vp_updL]
theorem setr_row {σ : St} {k : Nat} {f : Nat → Int32} : (setr σ k f).1 k = f := by
  funext b
  simp [setr]
theorem seti_obj {w : Wo} {σ : St} {k j : Nat} {v : Int32} {fl : List (Nat × Nat)} {z : Nat} (h : fl[j]? = some (0, z)) : fvals w (seti σ k j v) k 0 fl = (fvals w σ k 0 fl).set j (.int v) := by
  apply List.ext_getElem?
  intro i
  have hl : j < (fvals w σ k 0 fl).length := by
    rw [fvals_len]
    exact (List.getElem?_eq_some_iff.mp h).1
  by_cases hij : i = j
  · subst hij
    rw [List.getElem?_set_self hl, fvals_get, h]
    simp [fval, seti]
  · rw [List.getElem?_set_ne (Ne.symm hij), fvals_get, fvals_get]
    cases hf : fl[i]? with
    | none => rfl
    | some f =>
      simp only [Option.map_some, Nat.zero_add]
      unfold fval
      simp [seti, hij]
theorem setl_obj {w : Wo} {σ : St} {k j : Nat} {v : Int64} {fl : List (Nat × Nat)} {z : Nat} (h : fl[j]? = some (1, z)) : fvals w (setl σ k j v) k 0 fl = (fvals w σ k 0 fl).set j (.long v) := by
  apply List.ext_getElem?
  intro i
  have hl : j < (fvals w σ k 0 fl).length := by
    rw [fvals_len]
    exact (List.getElem?_eq_some_iff.mp h).1
  by_cases hij : i = j
  · subst hij
    rw [List.getElem?_set_self hl, fvals_get, h]
    simp [fval, setl]
  · rw [List.getElem?_set_ne (Ne.symm hij), fvals_get, fvals_get]
    cases hf : fl[i]? with
    | none => rfl
    | some f =>
      simp only [Option.map_some, Nat.zero_add]
      unfold fval
      simp [setl, hij]
/-- locals: by their numbers, what is known of each -/
abbrev Lo : Type := List (Option Value)
def lvL (w : Wo) (ls : Array Slot) (nL : Nat) (L : Lo) : Prop := ls.size = nL ∧ lv_wf ls ∧ ∀ (i : Nat) (v : Value), L[i]? = some (some v) → ls[i]? = some (.val (tv w v))
def asc (w : Wo) : Nat → Lo → List (Nat × Value)
  | _, [] => []
  | i, none :: r => asc w (i + 1) r
  | i, some v :: r => (i, tv w v) :: asc w (i + 1) r
theorem asc_mem {w : Wo} : ∀ (L : Lo) (b i : Nat) (v : Value), L[i]? = some (some v) → (b + i, tv w v) ∈ asc w b L
  | [], b, i, v, h => by simp at h
  | none :: r, b, 0, v, h => by simp at h
  | none :: r, b, i + 1, v, h => by
    rw [List.getElem?_cons_succ] at h
    have := asc_mem (w := w) r (b + 1) i v h
    rw [show b + 1 + i = b + (i + 1) by omega] at this
    exact this
  | some u :: r, b, 0, v, h => by
    simp at h
    subst h
    exact List.mem_cons_self
  | some u :: r, b, i + 1, v, h => by
    rw [List.getElem?_cons_succ] at h
    have := asc_mem (w := w) r (b + 1) i v h
    rw [show b + 1 + i = b + (i + 1) by omega] at this
    exact List.mem_cons_of_mem _ this
theorem asc_of {w : Wo} : ∀ (L : Lo) (b : Nat) (q : Nat × Value), q ∈ asc w b L → ∃ i v, q = (b + i, tv w v) ∧ L[i]? = some (some v)
  | [], b, q, h => by simp [asc] at h
  | none :: r, b, q, h => by
    obtain ⟨i, v, e, hv⟩ := asc_of r (b + 1) q h
    exact ⟨i + 1, v, by rw [e, show b + 1 + i = b + (i + 1) by omega], by rw [List.getElem?_cons_succ]; exact hv⟩
  | some u :: r, b, q, h => by
    rcases List.mem_cons.mp h with h | h
    · exact ⟨0, u, by rw [h]; rfl, rfl⟩
    · obtain ⟨i, v, e, hv⟩ := asc_of r (b + 1) q h
      exact ⟨i + 1, v, by rw [e, show b + 1 + i = b + (i + 1) by omega], by rw [List.getElem?_cons_succ]; exact hv⟩
theorem lvL.has {w : Wo} {ls : Array Slot} {nL : Nat} {L : Lo} (h : lvL w ls nL L) : lv_has ls nL (asc w 0 L) := by
  refine ⟨h.1, h.2.1, fun q hq => ?_⟩
  obtain ⟨i, v, e, hv⟩ := asc_of L 0 q hq
  subst e
  simp only [Nat.zero_add]
  exact h.2.2 i v hv
def isL (o : Option (Option Value)) : Bool := match o with
  | some (some (.long _)) => true
  | some (some (.double _)) => true
  | _ => false
def clr (L : Lo) (i : Nat) : Lo := match i with
  | 0 => L
  | k + 1 => if isL L[k]? then L.set k none else L
def st1 (L : Lo) (i : Nat) (v : Value) : Lo := (clr L i).set i (some v)
def st2 (L : Lo) (i : Nat) (v : Value) : Lo := ((clr L i).set (i + 1) none).set i (some v)
theorem tv_cat (w : Wo) (v : Value) : (tv w v).category = v.category := by cases v <;> rfl
theorem isL_cat {v : Value} (h : v.category = 2) : isL (some (some v)) = true := by
  cases v <;> first | rfl | (simp [Value.category] at h)
theorem clr_get {L : Lo} {i j : Nat} {v : Value} (h : (clr L i)[j]? = some (some v)) : L[j]? = some (some v) ∧ ¬ (j + 1 = i ∧ v.category = 2) := by
  unfold clr at h
  match i, h with
  | 0, h => exact ⟨h, fun q => by omega⟩
  | k + 1, h =>
    simp only at h
    split at h
    · rename_i hl
      by_cases hjk : j = k
      · subst hjk
        by_cases hlen : j < L.length
        · rw [List.getElem?_set_self hlen] at h
          cases h
        · rw [List.getElem?_eq_none (by simp; omega)] at h
          cases h
      · rw [List.getElem?_set_ne (Ne.symm hjk)] at h
        exact ⟨h, fun q => hjk (by omega)⟩
    · rename_i hl
      refine ⟨h, fun q => hl ?_⟩
      have : j = k := by omega
      subst this
      rw [h]
      exact isL_cat q.2
theorem lvL.store1 {w : Wo} {nL : Nat} {L : Lo} {i : Nat} {v : Value} (lv' : List (Nat × Value)) (hl : (i, tv w v) :: (asc w 0 L).filter (fun q => !(q.1 == i) && !(q.1 + 1 == i && q.2.category == 2)) = lv') (ls' : Array Slot) (h' : lv_has ls' nL lv') : lvL w ls' nL (st1 L i v) := by
  subst hl
  refine ⟨h'.1, h'.2.1, fun j u hj => ?_⟩
  unfold st1 at hj
  by_cases hji : j = i
  · subst hji
    by_cases hlen : j < (clr L j).length
    · rw [List.getElem?_set_self hlen] at hj
      cases hj
      exact h'.2.2 _ List.mem_cons_self
    · rw [List.getElem?_eq_none (by simp; omega)] at hj
      cases hj
  · rw [List.getElem?_set_ne (Ne.symm hji)] at hj
    obtain ⟨h1, h2⟩ := clr_get hj
    have hm := asc_mem (w := w) L 0 j u h1
    rw [Nat.zero_add] at hm
    refine h'.2.2 _ (List.mem_cons_of_mem _ (List.mem_filter.mpr ⟨hm, ?_⟩))
    simp only [Bool.and_eq_true, Bool.not_eq_true', beq_eq_false_iff_ne, Bool.and_eq_false_iff]
    refine ⟨hji, ?_⟩
    by_cases hq : j + 1 = i
    · right
      rw [tv_cat]
      exact fun z => h2 ⟨hq, z⟩
    · left
      exact hq
theorem lvL.store2 {w : Wo} {nL : Nat} {L : Lo} {i : Nat} {v : Value} (lv' : List (Nat × Value)) (hl : (i, tv w v) :: (asc w 0 L).filter (fun q => !(q.1 == i) && (!(q.1 == i + 1) && !(q.1 + 1 == i && q.2.category == 2))) = lv') (ls' : Array Slot) (h' : lv_has ls' nL lv') : lvL w ls' nL (st2 L i v) := by
  subst hl
  refine ⟨h'.1, h'.2.1, fun j u hj => ?_⟩
  unfold st2 at hj
  by_cases hji : j = i
  · subst hji
    by_cases hlen : j < ((clr L j).set (j + 1) none).length
    · rw [List.getElem?_set_self hlen] at hj
      cases hj
      exact h'.2.2 _ List.mem_cons_self
    · rw [List.getElem?_eq_none (by simp at hlen ⊢; omega)] at hj
      cases hj
  · rw [List.getElem?_set_ne (Ne.symm hji)] at hj
    by_cases hj2 : j = i + 1
    · subst hj2
      by_cases hlen : i + 1 < (clr L i).length
      · rw [List.getElem?_set_self hlen] at hj
        cases hj
      · rw [List.getElem?_eq_none (by simp; omega)] at hj
        cases hj
    · rw [List.getElem?_set_ne (Ne.symm hj2)] at hj
      obtain ⟨h1, h2⟩ := clr_get hj
      have hm := asc_mem (w := w) L 0 j u h1
      rw [Nat.zero_add] at hm
      refine h'.2.2 _ (List.mem_cons_of_mem _ (List.mem_filter.mpr ⟨hm, ?_⟩))
      simp only [Bool.and_eq_true, Bool.not_eq_true', beq_eq_false_iff_ne, Bool.and_eq_false_iff]
      refine ⟨hji, hj2, ?_⟩
      by_cases hq : j + 1 = i
      · right
        rw [tv_cat]
        exact fun z => h2 ⟨hq, z⟩
      · left
        exact hq
