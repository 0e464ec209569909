/-! the one text constant, and calls that answer a reference or null -/
def sgn (j : Nat) : Int32 := [40, 41, 44, 61, 59, 43, 45, 58].getD j 0
section RT
variable {R : Type} {l : Launch} {w : Wo} {S : List Shp} {Y Z : Mt} {d d' : Nat} {pc pc' : Nat} {L L' : Lo} {st rest : List Value} {σ : St} {mk : R → Ed}
theorem go_ldcS (hw : w.2.2.2 = true) (hc : Y.1.cls = "HeadNets$Tape") (hd : decode Y.2.1 pc = .ok (.ldc 70, 2)) (hp : pc + 2 = pc') : Go l w S Y d pc L st σ pc' L (.ref 9999 :: st) σ := by
  subst hp
  intro Post h p e s m args below meth c H locs ls X hl hP hD hS
  obtain ⟨k1, k2, k3⟩ := X.2.2.2.2.2.2.2.2.2 hw
  exact va_ldcS X.1 X.2.1 (hc ▸ X.2.2.2.2.1) k1 hd (h p e s m args below meth c H locs ls X hl hP hD hS)
theorem go_cst (hw : w.2.2.2 = true) {idx : Nat} (hl : Cond.fieldLink Y.1.cls idx "java/lang/String" "COMPACT_STRINGS" "Z" ∈ tb) (hd : decode Y.2.1 pc = .ok (.getstatic idx, 3)) (hp : pc + 3 = pc') : Go l w S Y d pc L st σ pc' L (.int 1 :: st) σ := by
  subst hp
  intro Post h p e s m args below meth c H locs ls X hl' hP hD hS
  obtain ⟨k1, k2, k3⟩ := X.2.2.2.2.2.2.2.2.2 hw
  exact va_gets X.1 X.2.1 k3 hS X.2.2.2.2.1 (X.2.2.2.2.2.1 _ hl) (fun _ h => h) hd (h p e s m args below meth c H locs ls X hl' hP hD hS)
theorem go_tval (hw : w.2.2.2 = true) {idx : Nat} (hl : Cond.fieldLink Y.1.cls idx "java/lang/String" "value" "[B" ∈ tb) (hd : decode Y.2.1 pc = .ok (.getfield idx, 3)) (hp : pc + 3 = pc') : Go l w S Y d pc L (.ref 9999 :: st) σ pc' L (.ref 9998 :: st) σ := by
  subst hp
  intro Post h p e s m args below meth c H locs ls X hl' hP hD hS
  obtain ⟨k1, k2, k3⟩ := X.2.2.2.2.2.2.2.2.2 hw
  exact vk_getf X.1 X.2.1 (k2.1 0 (by decide)).2.2.1 hS X.2.2.2.2.1 (X.2.2.2.2.2.1 _ hl) (fun _ h => h) hd (h p e s m args below meth c H locs ls X hl' hP hD hS)
theorem go_tcod (hw : w.2.2.2 = true) {idx : Nat} (hl : Cond.fieldLink Y.1.cls idx "java/lang/String" "coder" "B" ∈ tb) (hd : decode Y.2.1 pc = .ok (.getfield idx, 3)) (hp : pc + 3 = pc') : Go l w S Y d pc L (.ref 9999 :: st) σ pc' L (.int 0 :: st) σ := by
  subst hp
  intro Post h p e s m args below meth c H locs ls X hl' hP hD hS
  obtain ⟨k1, k2, k3⟩ := X.2.2.2.2.2.2.2.2.2 hw
  exact vk_getf X.1 X.2.1 (k2.1 0 (by decide)).2.1 hS X.2.2.2.2.1 (X.2.2.2.2.2.1 _ hl) (fun _ h => h) hd (h p e s m args below meth c H locs ls X hl' hP hD hS)
theorem go_tlen (hw : w.2.2.2 = true) (hd : decode Y.2.1 pc = .ok (.arraylength, 1)) (hp : pc + 1 = pc') : Go l w S Y d pc L (.ref 9998 :: st) σ pc' L (.int 8 :: st) σ := by
  subst hp
  intro Post h p e s m args below meth c H locs ls X hl' hP hD hS
  obtain ⟨k1, k2, k3⟩ := X.2.2.2.2.2.2.2.2.2 hw
  exact va_tlen X.1 X.2.1 (k2.1 0 (by decide)).2.2.2 hS (v := 8) (by decide) hd (h p e s m args below meth c H locs ls X hl' hP hD hS)
theorem go_tb {i : Int32} (hw : w.2.2.2 = true) (hi : inb i 8 = true) (hd : decode Y.2.1 pc = .ok (.baload, 1)) (hp : pc + 1 = pc') : Go l w S Y d pc L (.int i :: .ref 9998 :: st) σ pc' L (.int (sgn (ix i)) :: st) σ := by
  subst hp
  intro Post h p e s m args below meth c H locs ls X hl' hP hD hS
  obtain ⟨k1, k2, k3⟩ := X.2.2.2.2.2.2.2.2.2 hw
  exact va_tb X.1 X.2.1 (k2.1 0 (by decide)).2.2.2 hS (inb_in hi) (v := .int (sgn (ix i))) rfl hd (h p e s m args below meth c H locs ls X hl' hP hD hS)
theorem pw_callT {Post : Array Value → State → Outcome → State → Prop} {Q : Option Value → St → Prop} {As : List Value} {idx n : Nat} {st0 : List Value} (hw : w.2.2.2 = true) (hc : CT l w S Z d' (.ref 9999 :: As) σ Q) (co : CO Y.1.cls idx Z n) (hi : Cond.instanceMethod Z.1 ∈ tb) (hsel : Cond.selects Z.1.cls Z.1 Z.1 ∈ tb) (hC : "java/lang/String" = Z.1.cls) (hdd : d' + 1 ≤ d) (hm : Z.2.2.1 ≤ 60) (hn : As.length = n) (hst : As.reverse ++ .ref 9999 :: rest = st0) (hW : (rest.map fun v => v.category).sum ≤ 8) (hd : decode Y.2.1 pc = .ok (.invokevirtual idx, 3))
    (kk : ∀ r τ, Q r τ → PW l w S Y d Post (pc + 3) L (r.toList ++ rest) τ) : PW l w S Y d Post pc L st0 σ := by
  subst hst
  intro p e s m args below meth c H locs ls X hl hP hD hS
  obtain ⟨hx, hb, hml, hrt, hown, hts, hlk, hK, hN, hZ⟩ := id X
  obtain ⟨hlink, hini, hcode, hno⟩ := co
  have hR : (rmD d').frames + 1 ≤ (rmD d).frames ∧ 8 + (Z.2.2.1 + 11) + (rmD d').locals ≤ (rmD d).locals := ⟨hdd, by show 8 + (Z.2.2.1 + 11) + 80 * d' ≤ 80 * d; omega⟩
  have hWw : ((rest.map (tv w)).map fun v => v.category).sum ≤ 8 := by
    rw [List.map_map]
    have : ((fun v => Value.category v) ∘ tv w) = fun v => v.category := funext (tv_cat w)
    rw [this]
    exact hW
  have hstk : ((As.reverse ++ .ref 9999 :: rest).map (tv w)) = (As.map (tv w)).reverse ++ .ref (w.2.2.1 9999) :: rest.map (tv w) := by
    rw [List.map_append, List.map_reverse]
    rfl
  have hrecv : ∃ cell : Cell, H[w.2.2.1 9999]? = some cell ∧ cell.vm.isStatics = false ∧ s.vm.findClass Z.1.cls = some cell.cls := by
    rw [← hC]
    exact vk_recv (hZ hw).2.1 (i := 0) (by decide) hS
  have hpre : PreV s H Z.1.cls (w.2.2.1 9999) (fun av U => av = ((Value.ref 9999 :: As).map (tv w)).toArray ∧ WoAt w S σ U) (As.map (tv w)) := ⟨WoAt.blind _, hrecv, fun U hU hW => ⟨rfl, WoAt.at hK hN hZ hP hD hS hU hW⟩⟩
  rw [hstk]
  refine pw_back (a' := (Value.ref (w.2.2.1 9999) :: As.map (tv w)).toArray) X hl (fun τ => va_D_any hD) hS ?_ kk
  rcases hlink with hlink | ⟨host, hlink⟩
  · exact va_runV ⟨hx, hb, hml, hown, hts⟩ hc ⟨callB_of n hts (tb_goodIn hcode) rfl rfl rfl (hts _ hini) (hts _ hlink) hno hR, hts _ hi, hts _ hsel⟩ hpre rfl (by rw [List.length_map]; exact hn) hl.1 rfl (lv_room hWw) hd ⟨Nat.le_refl _, Nat.le_refl _⟩
  · exact va_runVN ⟨hx, hb, hml, hown, hts⟩ hc ⟨va_cnB n hts (tb_goodIn hcode) rfl rfl rfl (hN _ _ _ _ hlink) (hts _ hini) hno hR, hts _ hi, hts _ hsel⟩ hpre rfl (by rw [List.length_map]; exact hn) hl.1 rfl (lv_room hWw) hd ⟨Nat.le_refl _, Nat.le_refl _⟩
theorem gg_bret {t : R} {v : Int32} (hn : narrow .byte (.int v) = .int v) (hr : Y.2.2.2 = some .byte) (hd : decode Y.2.1 pc = .ok (.ireturn, 1)) (h : mk t = .inr (some (.int v), σ)) : GG l w S Y d pc L [.int v] σ (some t) mk := by
  intro Post t' hX hF
  cases hX
  rw [h] at hF
  intro p e s m args below meth c H locs ls X hl hP hD hS
  exact W.zret (v := v) X.1 X.2.1 (X.2.2.2.1.trans hr) hn (fun t ht hW => hF args s t (by rw [ht]; exact hP) (hS.F ht)) hS.2.2 hd (hlocks := X.2.2.2.2.2.2.1)
theorem k_none {As : List Value} {ret : R → Option Value × St} : K l w S Y d As σ none ret := fun q hq => by cases hq
def CTx (own : String) (idx : Nat) (Z : Mt) (n : Nat) : Prop := CO own idx Z n ∧ Cond.instanceMethod Z.1 ∈ tb ∧ Cond.selects Z.1.cls Z.1 Z.1 ∈ tb ∧ "java/lang/String" = Z.1.cls ∧ Z.2.2.1 ≤ 60
theorem gt_I {X : Option Int32} {k : Int32 → Option R} {As : List Value} {idx n : Nat} {st0 : List Value} (hw : w.2.2.2 = true) (hK : K l w S Z d' (.ref 9999 :: As) σ X (rI σ)) (cv : CTx Y.1.cls idx Z n) (hdd : d' + 1 ≤ d) (hn : As.length = n) (hst : As.reverse ++ .ref 9999 :: rest = st0) (hW : (rest.map fun v => v.category).sum ≤ 8) (hd : decode Y.2.1 pc = .ok (.invokevirtual idx, 3)) (hp : pc + 3 = pc')
    (kk : ∀ q, GG l w S Y d pc' L (.int q :: rest) σ (k q) mk) : GG l w S Y d pc L st0 σ (X.bind k) mk := by
  subst hp
  intro Post t hX hF
  obtain ⟨co, hi, hsel, hC, hm⟩ := cv
  cases hx : X with
  | none => rw [hx] at hX; cases hX
  | some u =>
    rw [hx] at hX
    exact pw_callT hw (hK u hx) co hi hsel hC hdd hm hn hst hW hd (fun r τ hq => by
      obtain ⟨h1, h2⟩ := hq
      subst h1; subst h2
      exact kk u Post t hX hF)
/-- a call that answers a reference or null: with what its answer says -/
theorem gv_AX {X : Option (Option Nat)} {k : Option Nat → Option R} {As : List Value} {a idx n ci : Nat} {fl : List (Nat × Nat)} {st0 : List Value} (hK : K l w S Z d' (.ref a :: As) σ X (rA σ)) (cv : CV Y.1.cls idx Z n ci) (hs : S[a]? = some (.inr (ci, fl))) (hdd : d' + 1 ≤ d) (hn : As.length = n) (hst : As.reverse ++ .ref a :: rest = st0) (hW : (rest.map fun v => v.category).sum ≤ 8) (hd : decode Y.2.1 pc = .ok (.invokevirtual idx, 3)) (hp : pc + 3 = pc')
    (k0 : GG l w S Y d pc' L (.null :: rest) σ (k none) mk) (k1 : ∀ b, X = some (some b) → GG l w S Y d pc' L (.ref b :: rest) σ (k (some b)) mk) : GG l w S Y d pc L st0 σ (X.bind k) mk := by
  subst hp
  intro Post t hX hF
  obtain ⟨co, hi, hsel, ⟨C, T, N, ty, cf, hC⟩, hm⟩ := cv
  cases hx : X with
  | none => rw [hx] at hX; cases hX
  | some u =>
    rw [hx] at hX
    exact pw_callV (hK u hx) co hi hsel cf hC hs hdd hm hn hst hW hd (fun r τ hq => by
      obtain ⟨h1, h2⟩ := hq
      subst h1; subst h2
      cases u with
      | none => exact k0 Post t hX hF
      | some b => exact k1 b hx Post t hX hF)
end RT
