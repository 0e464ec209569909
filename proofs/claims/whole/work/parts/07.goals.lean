/-! programs in Option, and that a method's run is one -/
abbrev Ed : Type := (Nat × Lo × List Value × St) ⊕ (Option Value × St)
def Fi (l : Launch) (w : Wo) (S : List Shp) (Y : Mt) (d : Nat) (Post : Array Value → State → Outcome → State → Prop) (q : Ed) : Prop := match q with
  | .inl q => PW l w S Y d Post q.1 q.2.1 q.2.2.1 q.2.2.2
  | .inr q => RetP w S Post q.1 q.2
def GG {R : Type} (l : Launch) (w : Wo) (S : List Shp) (Y : Mt) (d : Nat) (pc : Nat) (L : Lo) (st : List Value) (σ : St) (X : Option R) (mk : R → Ed) : Prop :=
  ∀ Post t, X = some t → Fi l w S Y d Post (mk t) → PW l w S Y d Post pc L st σ
def K {R : Type} (l : Launch) (w : Wo) (S : List Shp) (Z : Mt) (d : Nat) (As : List Value) (σ : St) (X : Option R) (ret : R → Option Value × St) : Prop :=
  ∀ q, X = some q → CT l w S Z d As σ (fun r τ => r = (ret q).1 ∧ τ = (ret q).2)
def rv (o : Option Nat) : Value := match o with
  | none => .null
  | some a => .ref a
abbrev rI (σ : St) : Int32 → Option Value × St := fun v => (some (.int v), σ)
abbrev rIS : Int32 × St → Option Value × St := fun q => (some (.int q.1), q.2)
abbrev rJ (σ : St) : Int64 → Option Value × St := fun v => (some (.long v), σ)
abbrev rJS : Int64 × St → Option Value × St := fun q => (some (.long q.1), q.2)
abbrev rV : St → Option Value × St := fun τ => (none, τ)
abbrev rA (σ : St) : Option Nat → Option Value × St := fun o => (some (rv o), σ)
section RG
variable {R R' : Type} {l : Launch} {w : Wo} {S : List Shp} {Y Z : Mt} {d d' : Nat} {pc pc' pcT pcF : Nat} {L L' : Lo} {st st' rest : List Value} {σ σ' : St} {X : Option R} {mk : R → Ed}
theorem gg_st (h : Go l w S Y d pc L st σ pc' L' st' σ') (k : GG l w S Y d pc' L' st' σ' X mk) : GG l w S Y d pc L st σ X mk := fun Post t hX hF => h Post (k Post t hX hF)
theorem gg_gd {c : Prop} [Decidable c] (h : c → GG l w S Y d pc L st σ X mk) : GG l w S Y d pc L st σ (if c then X else none) mk := by
  intro Post t hX hF
  by_cases hc : c
  · rw [if_pos hc] at hX
    exact h hc Post t hX hF
  · rw [if_neg hc] at hX
    cases hX
theorem gg_ite {c : Prop} [Decidable c] {X1 X2 : Option R} (h1 : c → GG l w S Y d pc L st σ X1 mk) (h2 : ¬ c → GG l w S Y d pc L st σ X2 mk) : GG l w S Y d pc L st σ (if c then X1 else X2) mk := by
  intro Post t hX hF
  by_cases hc : c
  · rw [if_pos hc] at hX
    exact h1 hc Post t hX hF
  · rw [if_neg hc] at hX
    exact h2 hc Post t hX hF
theorem gg_br {c : Prop} [Decidable c] {X1 X2 : Option R} {st0 : List Value} (h : Br l w S Y d c pc L st0 σ pcT pcF st) (h1 : c → GG l w S Y d pcT L st σ X1 mk) (h2 : ¬ c → GG l w S Y d pcF L st σ X2 mk) : GG l w S Y d pc L st0 σ (if c then X1 else X2) mk := by
  intro Post t hX hF
  by_cases hc : c
  · rw [if_pos hc] at hX
    exact h Post (fun _ => h1 hc Post t hX hF) (fun q => absurd hc q)
  · rw [if_neg hc] at hX
    exact h Post (fun q => absurd q hc) (fun _ => h2 hc Post t hX hF)
/-- both ways come to the same point with another value -/
theorem gg_brv {A : Type} {c : Prop} [Decidable c] {a b : A} {f : A → Option R} {st0 : List Value} (h : Br l w S Y d c pc L st0 σ pcT pcF st) (h1 : c → GG l w S Y d pcT L st σ (f a) mk) (h2 : ¬ c → GG l w S Y d pcF L st σ (f b) mk) : GG l w S Y d pc L st0 σ (f (if c then a else b)) mk := by
  intro Post t hX hF
  by_cases hc : c
  · rw [if_pos hc] at hX
    exact h Post (fun _ => h1 hc Post t hX hF) (fun q => absurd hc q)
  · rw [if_neg hc] at hX
    exact h Post (fun q => absurd q hc) (fun _ => h2 hc Post t hX hF)
theorem gg_bind {X : Option R'} {k : R' → Option R} (pJ : Nat) (Lf : R' → Lo) (sf : R' → List Value) (gf : R' → St) (h : GG l w S Y d pc L st σ X (fun t => .inl (pJ, Lf t, sf t, gf t))) (hk : ∀ t, GG l w S Y d pJ (Lf t) (sf t) (gf t) (k t) mk) : GG l w S Y d pc L st σ (X.bind k) mk := by
  intro Post t hX hF
  cases hx : X with
  | none => rw [hx] at hX; cases hX
  | some u =>
    rw [hx] at hX
    exact h Post u hx (hk u Post t hX hF)
theorem gg_none : GG l w S Y d pc L st σ (none : Option R) mk := by
  intro Post t hX hF
  cases hX
theorem gg_end {t : R} (h : mk t = .inl (pc, L, st, σ)) : GG l w S Y d pc L st σ (some t) mk := by
  intro Post t' hX hF
  cases hX
  rw [h] at hF
  exact hF
theorem gg_iret {t : R} {v : Int32} (hr : Y.2.2.2 = some .int) (hd : decode Y.2.1 pc = .ok (.ireturn, 1)) (h : mk t = .inr (some (.int v), σ)) : GG l w S Y d pc L [.int v] σ (some t) mk := by
  intro Post t' hX hF
  cases hX
  rw [h] at hF
  exact pw_iret hr hF hd
theorem gg_zret {t : R} {v : Int32} (hv : v = 0 ∨ v = 1) (hr : Y.2.2.2 = some .boolean) (hd : decode Y.2.1 pc = .ok (.ireturn, 1)) (h : mk t = .inr (some (.int v), σ)) : GG l w S Y d pc L [.int v] σ (some t) mk := by
  intro Post t' hX hF
  cases hX
  rw [h] at hF
  exact pw_zret hv hr hF hd
theorem gg_lret {t : R} {v : Int64} (hr : Y.2.2.2 = some .long) (hd : decode Y.2.1 pc = .ok (.lreturn, 1)) (h : mk t = .inr (some (.long v), σ)) : GG l w S Y d pc L [.long v] σ (some t) mk := by
  intro Post t' hX hF
  cases hX
  rw [h] at hF
  exact pw_lret hr hF hd
theorem gg_vret {t : R} (hr : Y.2.2.2 = none) (hd : decode Y.2.1 pc = .ok (.return_, 1)) (h : mk t = .inr (none, σ)) : GG l w S Y d pc L [] σ (some t) mk := by
  intro Post t' hX hF
  cases hX
  rw [h] at hF
  exact pw_vret hr hF hd
theorem gg_aret {t : R} {v : Value} {n : String} (hr : Y.2.2.2 = some (.object n)) (hv : v = .null ∨ ∃ a, v = .ref a) (hd : decode Y.2.1 pc = .ok (.areturn, 1)) (h : mk t = .inr (some v, σ)) : GG l w S Y d pc L [v] σ (some t) mk := by
  intro Post t' hX hF
  cases hX
  rw [h] at hF
  exact pw_aret hr (Or.inl ⟨n, rfl⟩) hv hF hd
theorem b01 {c : Prop} [Decidable c] : (if c then (1 : Int32) else 0) = 0 ∨ (if c then (1 : Int32) else 0) = 1 := by
  by_cases h : c <;> simp [h]
theorem b10 {c : Prop} [Decidable c] : (if c then (0 : Int32) else 1) = 0 ∨ (if c then (0 : Int32) else 1) = 1 := by
  by_cases h : c <;> simp [h]
theorem k_of {As : List Value} {ret : R → Option Value × St} (hn : plainFor Y.1 = true) (n : Nat) (hL : aL As ++ List.replicate n none = L) (hlen : (lg_sl (As.map (tv w))).length ≤ Y.2.2.1) (h : GG l w S Y d 0 L [] σ X (fun q => .inr (ret q))) : K l w S Y d As σ X ret :=
  fun q hq => ct_of hn n hL hlen (h _ q hq (RetP.of ⟨rfl, rfl⟩))
theorem go_tableIn {dflt lo hi : Int} {offs : Array Int} {len : Nat} {x : Int32} {off : Int} (h1 : ¬ x.toInt < lo) (h2 : ¬ hi < x.toInt) (ho : offs[(x.toInt - lo).toNat]? = some off) (ht : (pc : Int) + off = (pc' : Int)) (hd : decode Y.2.1 pc = .ok (.tableswitch dflt lo hi offs, len)) : Go l w S Y d pc L (.int x :: st) σ pc' L st σ := by
  intro Post h p e s m args below meth c H locs ls C hl hP hD hS
  exact lv_tableIn C.1 C.2.1 hd h1 h2 ho ht (h p e s m args below meth c H locs ls C hl hP hD hS)
theorem go_tableOut {dflt lo hi : Int} {offs : Array Int} {len : Nat} {x : Int32} (h1 : x.toInt < lo ∨ hi < x.toInt) (ht : (pc : Int) + dflt = (pc' : Int)) (hd : decode Y.2.1 pc = .ok (.tableswitch dflt lo hi offs, len)) : Go l w S Y d pc L (.int x :: st) σ pc' L st σ := by
  intro Post h p e s m args below meth c H locs ls C hl hP hD hS
  exact lv_tableOut C.1 C.2.1 hd h1 ht (h p e s m args below meth c H locs ls C hl hP hD hS)
theorem gg_callV {X : Option R'} {k : R' → Option R} {ret : R' → Option Value × St} {As : List Value} {a idx n ci N : Nat} {C : String} {T : u_T} {ty : Nat → FieldType} {fl : List (Nat × Nat)} {st0 : List Value} (hK : K l w S Z d' (.ref a :: As) σ X ret) (co : CO Y.1.cls idx Z n) (hi : Cond.instanceMethod Z.1 ∈ tb) (hsel : Cond.selects Z.1.cls Z.1 Z.1 ∈ tb) (cf : CF ci C T N ty) (hC : C = Z.1.cls) (hs : S[a]? = some (.inr (ci, fl))) (hdd : d' + 1 ≤ d) (hm : Z.2.2.1 ≤ 60) (hn : As.length = n) (hst : As.reverse ++ .ref a :: rest = st0) (hW : (rest.map fun v => v.category).sum ≤ 8) (hd : decode Y.2.1 pc = .ok (.invokevirtual idx, 3)) (hp : pc + 3 = pc')
    (kk : ∀ q, GG l w S Y d pc' L ((ret q).1.toList ++ rest) (ret q).2 (k q) mk) : GG l w S Y d pc L st0 σ (X.bind k) mk := by
  subst hp
  intro Post t hX hF
  cases hx : X with
  | none => rw [hx] at hX; cases hX
  | some u =>
    rw [hx] at hX
    exact pw_callV (hK u hx) co hi hsel cf hC hs hdd hm hn hst hW hd (fun r τ hq => by
      obtain ⟨h1, h2⟩ := hq
      subst h1; subst h2
      exact kk u Post t hX hF)
theorem gg_callS {X : Option R'} {k : R' → Option R} {ret : R' → Option Value × St} {As : List Value} {idx n : Nat} {st0 : List Value} (hK : K l w S Z d' As σ X ret) (co : CO Y.1.cls idx Z n) (hi : Cond.static Z.1 ∈ tb) (hdd : d' + 1 ≤ d) (hm : Z.2.2.1 ≤ 60) (hn : As.length = n) (hst : As.reverse ++ rest = st0) (hW : (rest.map fun v => v.category).sum ≤ 8) (hd : decode Y.2.1 pc = .ok (.invokestatic idx, 3)) (hp : pc + 3 = pc')
    (kk : ∀ q, GG l w S Y d pc' L ((ret q).1.toList ++ rest) (ret q).2 (k q) mk) : GG l w S Y d pc L st0 σ (X.bind k) mk := by
  subst hp
  intro Post t hX hF
  cases hx : X with
  | none => rw [hx] at hX; cases hX
  | some u =>
    rw [hx] at hX
    exact pw_callS (hK u hx) co hi hdd hm hn hst hW hd (fun r τ hq => by
      obtain ⟨h1, h2⟩ := hq
      subst h1; subst h2
      exact kk u Post t hX hF)
/-- what is asked of a virtual call's tables -/
def CV (own : String) (idx : Nat) (Z : Mt) (n ci : Nat) : Prop := CO own idx Z n ∧ Cond.instanceMethod Z.1 ∈ tb ∧ Cond.selects Z.1.cls Z.1 Z.1 ∈ tb ∧ (∃ C T N ty, CF ci C T N ty ∧ C = Z.1.cls) ∧ Z.2.2.1 ≤ 60
def CS (own : String) (idx : Nat) (Z : Mt) (n : Nat) : Prop := CO own idx Z n ∧ Cond.static Z.1 ∈ tb ∧ Z.2.2.1 ≤ 60
theorem gv_I {X : Option (Int32)} {k : Int32 → Option R} {As : List Value} {a idx n ci : Nat} {fl : List (Nat × Nat)} {st0 : List Value} (hK : K l w S Z d' (.ref a :: As) σ X (rI σ)) (cv : CV Y.1.cls idx Z n ci) (hs : S[a]? = some (.inr (ci, fl))) (hdd : d' + 1 ≤ d) (hn : As.length = n) (hst : As.reverse ++ .ref a :: rest = st0) (hW : (rest.map fun v => v.category).sum ≤ 8) (hd : decode Y.2.1 pc = .ok (.invokevirtual idx, 3)) (hp : pc + 3 = pc')
    (kk : ∀ q, GG l w S Y d pc' L (.int q :: rest) σ (k q) mk) : GG l w S Y d pc L st0 σ (X.bind k) mk := by
  obtain ⟨co, hi, hsel, ⟨C, T, N, ty, cf, hC⟩, hm⟩ := cv
  exact gg_callV hK co hi hsel cf hC hs hdd hm hn hst hW hd hp kk
theorem gs_I {X : Option (Int32)} {k : Int32 → Option R} {As : List Value} {idx n : Nat} {st0 : List Value} (hK : K l w S Z d' As σ X (rI σ)) (cs : CS Y.1.cls idx Z n) (hdd : d' + 1 ≤ d) (hn : As.length = n) (hst : As.reverse ++ rest = st0) (hW : (rest.map fun v => v.category).sum ≤ 8) (hd : decode Y.2.1 pc = .ok (.invokestatic idx, 3)) (hp : pc + 3 = pc')
    (kk : ∀ q, GG l w S Y d pc' L (.int q :: rest) σ (k q) mk) : GG l w S Y d pc L st0 σ (X.bind k) mk := by
  obtain ⟨co, hi, hm⟩ := cs
  exact gg_callS hK co hi hdd hm hn hst hW hd hp kk
theorem gv_IS {X : Option (Int32 × St)} {k : Int32 × St → Option R} {As : List Value} {a idx n ci : Nat} {fl : List (Nat × Nat)} {st0 : List Value} (hK : K l w S Z d' (.ref a :: As) σ X (rIS)) (cv : CV Y.1.cls idx Z n ci) (hs : S[a]? = some (.inr (ci, fl))) (hdd : d' + 1 ≤ d) (hn : As.length = n) (hst : As.reverse ++ .ref a :: rest = st0) (hW : (rest.map fun v => v.category).sum ≤ 8) (hd : decode Y.2.1 pc = .ok (.invokevirtual idx, 3)) (hp : pc + 3 = pc')
    (kk : ∀ q, GG l w S Y d pc' L (.int q.1 :: rest) q.2 (k q) mk) : GG l w S Y d pc L st0 σ (X.bind k) mk := by
  obtain ⟨co, hi, hsel, ⟨C, T, N, ty, cf, hC⟩, hm⟩ := cv
  exact gg_callV hK co hi hsel cf hC hs hdd hm hn hst hW hd hp kk
theorem gs_IS {X : Option (Int32 × St)} {k : Int32 × St → Option R} {As : List Value} {idx n : Nat} {st0 : List Value} (hK : K l w S Z d' As σ X (rIS)) (cs : CS Y.1.cls idx Z n) (hdd : d' + 1 ≤ d) (hn : As.length = n) (hst : As.reverse ++ rest = st0) (hW : (rest.map fun v => v.category).sum ≤ 8) (hd : decode Y.2.1 pc = .ok (.invokestatic idx, 3)) (hp : pc + 3 = pc')
    (kk : ∀ q, GG l w S Y d pc' L (.int q.1 :: rest) q.2 (k q) mk) : GG l w S Y d pc L st0 σ (X.bind k) mk := by
  obtain ⟨co, hi, hm⟩ := cs
  exact gg_callS hK co hi hdd hm hn hst hW hd hp kk
theorem gv_J {X : Option (Int64)} {k : Int64 → Option R} {As : List Value} {a idx n ci : Nat} {fl : List (Nat × Nat)} {st0 : List Value} (hK : K l w S Z d' (.ref a :: As) σ X (rJ σ)) (cv : CV Y.1.cls idx Z n ci) (hs : S[a]? = some (.inr (ci, fl))) (hdd : d' + 1 ≤ d) (hn : As.length = n) (hst : As.reverse ++ .ref a :: rest = st0) (hW : (rest.map fun v => v.category).sum ≤ 8) (hd : decode Y.2.1 pc = .ok (.invokevirtual idx, 3)) (hp : pc + 3 = pc')
    (kk : ∀ q, GG l w S Y d pc' L (.long q :: rest) σ (k q) mk) : GG l w S Y d pc L st0 σ (X.bind k) mk := by
  obtain ⟨co, hi, hsel, ⟨C, T, N, ty, cf, hC⟩, hm⟩ := cv
  exact gg_callV hK co hi hsel cf hC hs hdd hm hn hst hW hd hp kk
theorem gs_J {X : Option (Int64)} {k : Int64 → Option R} {As : List Value} {idx n : Nat} {st0 : List Value} (hK : K l w S Z d' As σ X (rJ σ)) (cs : CS Y.1.cls idx Z n) (hdd : d' + 1 ≤ d) (hn : As.length = n) (hst : As.reverse ++ rest = st0) (hW : (rest.map fun v => v.category).sum ≤ 8) (hd : decode Y.2.1 pc = .ok (.invokestatic idx, 3)) (hp : pc + 3 = pc')
    (kk : ∀ q, GG l w S Y d pc' L (.long q :: rest) σ (k q) mk) : GG l w S Y d pc L st0 σ (X.bind k) mk := by
  obtain ⟨co, hi, hm⟩ := cs
  exact gg_callS hK co hi hdd hm hn hst hW hd hp kk
theorem gv_JS {X : Option (Int64 × St)} {k : Int64 × St → Option R} {As : List Value} {a idx n ci : Nat} {fl : List (Nat × Nat)} {st0 : List Value} (hK : K l w S Z d' (.ref a :: As) σ X (rJS)) (cv : CV Y.1.cls idx Z n ci) (hs : S[a]? = some (.inr (ci, fl))) (hdd : d' + 1 ≤ d) (hn : As.length = n) (hst : As.reverse ++ .ref a :: rest = st0) (hW : (rest.map fun v => v.category).sum ≤ 8) (hd : decode Y.2.1 pc = .ok (.invokevirtual idx, 3)) (hp : pc + 3 = pc')
    (kk : ∀ q, GG l w S Y d pc' L (.long q.1 :: rest) q.2 (k q) mk) : GG l w S Y d pc L st0 σ (X.bind k) mk := by
  obtain ⟨co, hi, hsel, ⟨C, T, N, ty, cf, hC⟩, hm⟩ := cv
  exact gg_callV hK co hi hsel cf hC hs hdd hm hn hst hW hd hp kk
theorem gs_JS {X : Option (Int64 × St)} {k : Int64 × St → Option R} {As : List Value} {idx n : Nat} {st0 : List Value} (hK : K l w S Z d' As σ X (rJS)) (cs : CS Y.1.cls idx Z n) (hdd : d' + 1 ≤ d) (hn : As.length = n) (hst : As.reverse ++ rest = st0) (hW : (rest.map fun v => v.category).sum ≤ 8) (hd : decode Y.2.1 pc = .ok (.invokestatic idx, 3)) (hp : pc + 3 = pc')
    (kk : ∀ q, GG l w S Y d pc' L (.long q.1 :: rest) q.2 (k q) mk) : GG l w S Y d pc L st0 σ (X.bind k) mk := by
  obtain ⟨co, hi, hm⟩ := cs
  exact gg_callS hK co hi hdd hm hn hst hW hd hp kk
theorem gv_V {X : Option (St)} {k : St → Option R} {As : List Value} {a idx n ci : Nat} {fl : List (Nat × Nat)} {st0 : List Value} (hK : K l w S Z d' (.ref a :: As) σ X (rV)) (cv : CV Y.1.cls idx Z n ci) (hs : S[a]? = some (.inr (ci, fl))) (hdd : d' + 1 ≤ d) (hn : As.length = n) (hst : As.reverse ++ .ref a :: rest = st0) (hW : (rest.map fun v => v.category).sum ≤ 8) (hd : decode Y.2.1 pc = .ok (.invokevirtual idx, 3)) (hp : pc + 3 = pc')
    (kk : ∀ q, GG l w S Y d pc' L (rest) q (k q) mk) : GG l w S Y d pc L st0 σ (X.bind k) mk := by
  obtain ⟨co, hi, hsel, ⟨C, T, N, ty, cf, hC⟩, hm⟩ := cv
  exact gg_callV hK co hi hsel cf hC hs hdd hm hn hst hW hd hp kk
theorem gs_V {X : Option (St)} {k : St → Option R} {As : List Value} {idx n : Nat} {st0 : List Value} (hK : K l w S Z d' As σ X (rV)) (cs : CS Y.1.cls idx Z n) (hdd : d' + 1 ≤ d) (hn : As.length = n) (hst : As.reverse ++ rest = st0) (hW : (rest.map fun v => v.category).sum ≤ 8) (hd : decode Y.2.1 pc = .ok (.invokestatic idx, 3)) (hp : pc + 3 = pc')
    (kk : ∀ q, GG l w S Y d pc' L (rest) q (k q) mk) : GG l w S Y d pc L st0 σ (X.bind k) mk := by
  obtain ⟨co, hi, hm⟩ := cs
  exact gg_callS hK co hi hdd hm hn hst hW hd hp kk
theorem gv_A {X : Option (Option Nat)} {k : Option Nat → Option R} {As : List Value} {a idx n ci : Nat} {fl : List (Nat × Nat)} {st0 : List Value} (hK : K l w S Z d' (.ref a :: As) σ X (rA σ)) (cv : CV Y.1.cls idx Z n ci) (hs : S[a]? = some (.inr (ci, fl))) (hdd : d' + 1 ≤ d) (hn : As.length = n) (hst : As.reverse ++ .ref a :: rest = st0) (hW : (rest.map fun v => v.category).sum ≤ 8) (hd : decode Y.2.1 pc = .ok (.invokevirtual idx, 3)) (hp : pc + 3 = pc')
    (kk : ∀ q, GG l w S Y d pc' L (rv q :: rest) σ (k q) mk) : GG l w S Y d pc L st0 σ (X.bind k) mk := by
  obtain ⟨co, hi, hsel, ⟨C, T, N, ty, cf, hC⟩, hm⟩ := cv
  exact gg_callV hK co hi hsel cf hC hs hdd hm hn hst hW hd hp kk
theorem gs_A {X : Option (Option Nat)} {k : Option Nat → Option R} {As : List Value} {idx n : Nat} {st0 : List Value} (hK : K l w S Z d' As σ X (rA σ)) (cs : CS Y.1.cls idx Z n) (hdd : d' + 1 ≤ d) (hn : As.length = n) (hst : As.reverse ++ rest = st0) (hW : (rest.map fun v => v.category).sum ≤ 8) (hd : decode Y.2.1 pc = .ok (.invokestatic idx, 3)) (hp : pc + 3 = pc')
    (kk : ∀ q, GG l w S Y d pc' L (rv q :: rest) σ (k q) mk) : GG l w S Y d pc L st0 σ (X.bind k) mk := by
  obtain ⟨co, hi, hm⟩ := cs
  exact gg_callS hK co hi hdd hm hn hst hW hd hp kk
end RG
section RG2
variable {R R' : Type} {l : Launch} {w : Wo} {S : List Shp} {Y Z : Mt} {d d' : Nat} {pc pc' pcT pcF : Nat} {L L' : Lo} {st st' rest : List Value} {σ σ' : St} {X X' : Option R} {mk : R → Ed}
theorem gg_eq (h : X = X') (k : GG l w S Y d pc L st σ X' mk) : GG l w S Y d pc L st σ X mk := h ▸ k
theorem gg_som {k : St → Option R} (h : ∀ s, GG l w S Y d pc L st s (k s) mk) : GG l w S Y d pc L st σ ((some σ).bind k) mk := h σ
theorem gg_nm {A : Type} {v : A} {k : A → Option R} (Lf : A → Lo) (sf : A → List Value) (h : ∀ x, GG l w S Y d pc (Lf x) (sf x) σ (k x) mk) : GG l w S Y d pc (Lf v) (sf v) σ ((some v).bind k) mk := h v
theorem gg_jp {A : Type} {f : A → Option R} {k : (A → Option R) → Option R} (pJ : Nat) (Lf : A → Lo) (sf : A → List Value) (gf : A → St) (h1 : ∀ a, GG l w S Y d pJ (Lf a) (sf a) (gf a) (f a) mk) (h2 : ∀ jp, (∀ a, GG l w S Y d pJ (Lf a) (sf a) (gf a) (jp a) mk) → GG l w S Y d pc L st σ (k jp) mk) : GG l w S Y d pc L st σ ((some f).bind k) mk := h2 f h1
def subL : Lo → Lo → Prop
  | [], [] => True
  | _ :: r, none :: r' => subL r r'
  | some v :: r, some v' :: r' => v = v' ∧ subL r r'
  | _, _ => False
theorem subL_get : ∀ (L L' : Lo), subL L L' → ∀ (i : Nat) (v : Value), L'[i]? = some (some v) → L[i]? = some (some v)
  | [], [], _, i, v, h => h
  | a :: r, none :: r', hs, 0, v, h => by simp at h
  | a :: r, none :: r', hs, i + 1, v, h => by
    rw [List.getElem?_cons_succ] at h ⊢
    cases a with
    | none => exact subL_get r r' hs i v h
    | some a => exact subL_get r r' hs i v h
  | some u :: r, some v' :: r', hs, 0, v, h => by
    simp at h
    subst h
    rw [hs.1]
    rfl
  | some u :: r, some v' :: r', hs, i + 1, v, h => by
    rw [List.getElem?_cons_succ] at h ⊢
    exact subL_get r r' hs.2 i v h
  | none :: r, some v' :: r', hs, i, v, h => absurd hs (by simp [subL])
  | [], none :: r', hs, i, v, h => absurd hs (by simp [subL])
  | [], some v' :: r', hs, i, v, h => absurd hs (by simp [subL])
  | a :: r, [], hs, i, v, h => by simp at h
theorem go_fg (L' : Lo) (h : subL L L') : Go l w S Y d pc L st σ pc L' st σ := by
  intro Post k p e s m args below meth c H locs ls C hl hP hD hS
  exact k p e s m args below meth c H locs ls C ⟨hl.1, hl.2.1, fun i v hi => hl.2.2 i v (subL_get L L' h i v hi)⟩ hP hD hS
theorem go_vI {v : Int32} {As : List Value} {a idx n ci : Nat} {fl : List (Nat × Nat)} {st0 : List Value} (hK : K l w S Z d' (.ref a :: As) σ (some v) (rI σ)) (cv : CV Y.1.cls idx Z n ci) (hs : S[a]? = some (.inr (ci, fl))) (hdd : d' + 1 ≤ d) (hn : As.length = n) (hst : As.reverse ++ .ref a :: rest = st0) (hW : (rest.map fun v => v.category).sum ≤ 8) (hd : decode Y.2.1 pc = .ok (.invokevirtual idx, 3)) (hp : pc + 3 = pc') : Go l w S Y d pc L st0 σ pc' L (.int v :: rest) σ := by
  subst hp
  intro Post h
  obtain ⟨co, hi, hsel, ⟨C, T, N, ty, cf, hC⟩, hm⟩ := cv
  exact pw_callV (hK v rfl) co hi hsel cf hC hs hdd hm hn hst hW hd (fun r τ hq => by
    obtain ⟨h1, h2⟩ := hq
    subst h1; subst h2
    exact h)
theorem go_sI {v : Int32} {As : List Value} {idx n : Nat} {st0 : List Value} (hK : K l w S Z d' As σ (some v) (rI σ)) (cs : CS Y.1.cls idx Z n) (hdd : d' + 1 ≤ d) (hn : As.length = n) (hst : As.reverse ++ rest = st0) (hW : (rest.map fun v => v.category).sum ≤ 8) (hd : decode Y.2.1 pc = .ok (.invokestatic idx, 3)) (hp : pc + 3 = pc') : Go l w S Y d pc L st0 σ pc' L (.int v :: rest) σ := by
  subst hp
  intro Post h
  obtain ⟨co, hi, hm⟩ := cs
  exact pw_callS (hK v rfl) co hi hdd hm hn hst hW hd (fun r τ hq => by
    obtain ⟨h1, h2⟩ := hq
    subst h1; subst h2
    exact h)
end RG2
section RG3
variable {R R' : Type} {l : Launch} {w : Wo} {S : List Shp} {Y Z : Mt} {d d' : Nat} {pc pc' pcT pcF : Nat} {L L' : Lo} {st st' rest : List Value} {σ σ' : St} {X X' : Option R} {mk : R → Ed}
theorem gg_two {c : Prop} [Decidable c] {A B : Option R} {pA pB : Nat} {LL : Lo} {ss : List Value} (hA : GG l w S Y d pA LL ss σ A mk) (hB : GG l w S Y d pB LL ss σ B mk) (h : GG l w S Y d pA LL ss σ A mk → GG l w S Y d pB LL ss σ B mk → GG l w S Y d pc L st σ (if c then A else B) mk) : GG l w S Y d pc L st σ (if c then A else B) mk := h hA hB
theorem gg_twov {c : Prop} [Decidable c] {A B : R} {pA pB : Nat} {LL : Lo} {ss : List Value} (hA : GG l w S Y d pA LL ss σ (some A) mk) (hB : GG l w S Y d pB LL ss σ (some B) mk) (h : GG l w S Y d pA LL ss σ (some A) mk → GG l w S Y d pB LL ss σ (some B) mk → GG l w S Y d pc L st σ (some (if c then A else B)) mk) : GG l w S Y d pc L st σ (some (if c then A else B)) mk := h hA hB
theorem gg_brs {c : Prop} {st0 : List Value} (h : Br l w S Y d c pc L st0 σ pcT pcF st) (h1 : c → GG l w S Y d pcT L st σ X mk) (h2 : ¬ c → GG l w S Y d pcF L st σ X mk) : GG l w S Y d pc L st0 σ X mk := by
  intro Post t hX hF
  exact h Post (fun q => h1 q Post t hX hF) (fun q => h2 q Post t hX hF)
end RG3
