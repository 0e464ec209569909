def f_X11_read0 (F : Nat) (σ : St) : Option ((Int32 × St) ⊕ St) :=
  Option.bind (f_X6_readText F σ) fun x3 =>
  if x3.1 = 0 then (
    some (.inr x3.2))
  else (
    some (.inl ((-10 : Int32) - x3.1, x3.2)))
def f_X11_read1 (F : Nat) (σ : St) : Option (Int32 × St) :=
  Option.bind (f_X2_clear (σ.1 (77) 3) σ) fun s1 =>
  Option.bind (f_X11_emptyShelves F s1) fun s2 =>
  some (s2.1 (77) 3, s2)
def mkR0 : (Int32 × St) ⊕ St → Ed := Sum.elim (fun q => .inr (some (.int q.1), q.2)) (fun s => .inl (17, [some (.ref 0), none, none], [], s))
set_option maxRecDepth 20000 in
theorem g_X11_read0 (l : Launch) (w : Wo) (hw : w.2.2.2 = true) (F : Nat) (σ : St) : GG l w shC m_X11_read 89 0 [some (.ref 0), none, none] [] σ (f_X11_read0 F σ) mkR0 := by
  unfold f_X11_read0
  refine gg_st (go_aload_n 0 d_X11_read_0 rfl rfl rfl) ?_
  refine gg_st (go_getR (j := 0) cf11 sC_0 rfl (by decide) fl_X11_12 d_X11_read_1 rfl) ?_
  refine gv_IS (k_X6_readText l w hw F  σ) cv_X11_87 sC_1 (Nat.le_of_ble_eq_true rfl) rfl rfl (Nat.le_of_ble_eq_true rfl) d_X11_read_4 rfl (fun x3 => ?_)
  refine gg_st (go_istore_n 1 d_X11_read_7 rfl (by decide) (L' := [some (.ref (0)), some (.int x3.1), none]) rfl rfl) ?_
  refine gg_st (go_iload_n 1 d_X11_read_8 rfl rfl rfl) ?_
  refine gg_br (br_if_eq (tgt := 17) (pc' := 12) d_X11_read_9 (by decide) rfl) (fun h4 => ?_) (fun h4 => ?_)
  · refine gg_st (go_fg [some (.ref (0)), none, none] ⟨rfl, trivial⟩) ?_
    exact gg_end rfl
  · refine gg_st (go_bipush d_X11_read_12 cb_m10 rfl) ?_
    refine gg_st (go_iload_n 1 d_X11_read_14 rfl rfl rfl) ?_
    refine gg_st (go_isub d_X11_read_15 rfl) ?_
    exact gg_iret rfl d_X11_read_16 rfl
set_option maxRecDepth 20000 in
theorem g_X11_read1 (l : Launch) (w : Wo) (F : Nat) (σ : St) : GG l w shC m_X11_read 89 41 [some (.ref 0), none, none] [] σ (f_X11_read1 F σ) (fun q => .inr (rIS q)) := by
  unfold f_X11_read1
  refine gg_st (go_aload_n 0 d_X11_read_41 rfl rfl rfl) ?_
  refine gg_st (go_getR (j := 2) cf11 sC_0 rfl (by decide) fl_X11_26 d_X11_read_42 rfl) ?_
  refine gg_st (go_aload_n 0 d_X11_read_45 rfl rfl rfl) ?_
  refine gg_st (go_getR (j := 8) cf11 sC_0 rfl (by decide) fl_X11_61 d_X11_read_46 rfl) ?_
  refine gg_st (go_getR (j := 2) cf0 sC_64 rfl (by decide) fl_X11_92 d_X11_read_49 rfl) ?_
  refine gg_st (go_getI (j := 3) cf4 sC_77 rfl (by decide) fl_X11_96 d_X11_read_52 rfl) ?_
  refine gv_V (k_X2_clear l w (σ.1 (77) 3) σ) cv_X11_99 sC_36 (Nat.le_of_ble_eq_true rfl) rfl rfl (Nat.le_of_ble_eq_true rfl) d_X11_read_55 rfl (fun s1 => ?_)
  refine gg_st (go_aload_n 0 d_X11_read_58 rfl rfl rfl) ?_
  refine gv_V (k_X11_emptyShelves l w F  s1) cv_X11_102 sC_0 (Nat.le_of_ble_eq_true rfl) rfl rfl (Nat.le_of_ble_eq_true rfl) d_X11_read_59 rfl (fun s2 => ?_)
  refine gg_st (go_aload_n 0 d_X11_read_62 rfl rfl rfl) ?_
  refine gg_st (go_getR (j := 8) cf11 sC_0 rfl (by decide) fl_X11_61 d_X11_read_63 rfl) ?_
  refine gg_st (go_getR (j := 2) cf0 sC_64 rfl (by decide) fl_X11_92 d_X11_read_66 rfl) ?_
  refine gg_st (go_getI (j := 3) cf4 sC_77 rfl (by decide) fl_X11_96 d_X11_read_69 rfl) ?_
  exact gg_iret rfl d_X11_read_72 rfl
/-! the swap of the two Books: the cells change their numbers -/
def piS (k : Nat) : Nat := if 14 ≤ k ∧ k ≤ 30 then k + 50 else if 64 ≤ k ∧ k ≤ 80 then k - 50 else k
theorem piS_piS (k : Nat) : piS (piS k) = k := by
  unfold piS
  split
  · rw [if_neg (by omega), if_pos (by omega)]
    omega
  · split
    · rw [if_pos (by omega)]
      omega
    · rfl
theorem piS_lt {k : Nat} (h : k < 81) : piS k < 81 := by
  unfold piS
  split
  · omega
  · split <;> omega
def swW (w : Wo) : Wo := (w.1, w.2.1, fun k => w.2.2.1 (piS k), w.2.2.2)
def swS (σ : St) : St := (fun k j => σ.1 (piS k) j, fun k j => σ.2 (piS k) j)
def renf (f : Nat × Nat) : Nat × Nat := (f.1, if f.1 < 2 then f.2 else piS f.2)
def ren (sh : Shp) : Shp := match sh with
  | .inl q => .inl q
  | .inr q => .inr (q.1, q.2.map renf)
theorem shC_len : shC.length = 81 := rfl
theorem AW_sw (w : Wo) : AW (swW w) shC = AW w shC := by
  funext q
  apply propext
  constructor
  · rintro ⟨k, hk, e⟩
    rw [shC_len] at hk
    exact ⟨piS k, by rw [shC_len]; exact piS_lt hk, e⟩
  · rintro ⟨k, hk, e⟩
    rw [shC_len] at hk
    refine ⟨piS k, by rw [shC_len]; exact piS_lt hk, ?_⟩
    show q = w.2.2.1 (piS (piS k))
    rw [piS_piS]
    exact e
theorem fval_sw (w : Wo) (σ : St) (k j : Nat) (f : Nat × Nat) : fval (swW w) (swS σ) k j f = fval w σ (piS k) j (renf f) := by
  obtain ⟨a, b⟩ := f
  match a with
  | 0 => rfl
  | 1 => rfl
  | a + 2 =>
    show Value.ref (w.2.2.1 (piS b)) = Value.ref (w.2.2.1 (if a + 2 < 2 then b else piS b))
    rw [if_neg (by omega)]
theorem fvals_sw (w : Wo) (σ : St) (k : Nat) : ∀ (fl : List (Nat × Nat)) (j : Nat), fvals (swW w) (swS σ) k j fl = fvals w σ (piS k) j (fl.map renf)
  | [], _ => rfl
  | f :: r, j => by rw [fvals, List.map_cons, fvals, fval_sw, fvals_sw w σ k r (j + 1)]
theorem shC_sw0 : (List.range 81).all (fun k => k == 0 || (k == 1 || decide (shC[piS k]? = (shC[k]?).map ren))) = true := by decide +kernel
theorem shC_sw (k : Nat) (hk : k < 81) (h0 : k ≠ 0) (h1 : k ≠ 1) : shC[piS k]? = (shC[k]?).map ren := by
  have h := List.all_eq_true.mp shC_sw0 k (List.mem_range.mpr hk)
  simpa [h0, h1] using h
def arrOk (sh : Option Shp) : Bool := match sh with
  | some (Sum.inl q) => decide (q.1 < 4)
  | _ => true
theorem shC_arr0 : (List.range 81).all (fun k => k == 38 || arrOk shC[k]?) = true := by decide +kernel
theorem shC_arr : ∀ k, k < 81 → k ≠ 38 → ∀ t n, shC[k]? = some (.inl (t, n)) → t < 4 := by
  intro k hk h38 t n h
  have := List.all_eq_true.mp shC_arr0 k (List.mem_range.mpr hk)
  rw [h] at this
  simpa [h38, arrOk] using this
theorem arrV_congr {c : ClassId} {n : Nat} {f g : Nat → Value} (h : ∀ j, j < n → f j = g j) : arrV c n f = arrV c n g := by
  unfold arrV
  have : (fun j : Fin n => f j.val) = (fun j : Fin n => g j.val) := funext fun j => h j.val j.isLt
  rw [this]
/-- the world behind the two stores, by the other numbers -/
theorem sw_world {w : Wo} {σ : St} {H : Heap} {fl0 fl1 : List (Nat × Nat)} (h0 : shC[0]? = some (.inr (11, fl0))) (h1 : shC[1]? = some (.inr (6, fl1)))
    (hP : va_P w.1 vwCl (((wsF w σ 0 shC).set 0 (w.2.2.1 0, .inr (11, (fvals w σ 0 0 fl0).set 8 (.ref (w.2.2.1 14))))).set 1 (w.2.2.1 1, .inr (6, (fvals w σ 1 0 fl1).set 6 (.ref (w.2.2.1 64))))) H) : va_P w.1 vwCl (wsF (swW w) (swS σ) 0 shC) H := by
  intro k q hk
  rw [wsF_get] at hk
  cases hs : shC[k]? with
  | none => rw [hs] at hk; cases hk
  | some sh =>
    have hk81 : k < 81 := by
      have := (List.getElem?_eq_some_iff.mp hs).1
      rwa [shC_len] at this
    rw [hs] at hk
    simp only [Option.map_some, Nat.zero_add, Option.some.injEq] at hk
    subst hk
    have hlen : ((wsF w σ 0 shC)).length = 81 := by
      have : ∀ (T : List Shp) (k : Nat), (wsF w σ k T).length = T.length := by
        intro T
        induction T with
        | nil => intro k; rfl
        | cons a r ih => intro k; simp [wsF, ih]
      rw [this, shC_len]
    by_cases hk0 : k = 0
    · subst hk0
      rw [h0] at hs
      cases hs
      have e : ent (swW w) (swS σ) 0 (.inr (11, fl0)) = .inr (11, (fvals w σ 0 0 fl0).set 8 (.ref (w.2.2.1 14))) := by
        show Sum.inr (11, fvals (swW w) (swS σ) 0 0 fl0) = _
        rw [fvals_sw]
        have : fl0 = [(2, 1), (2, 31), (2, 36), (2, 38), (2, 55), (2, 56), (2, 59), (2, 62), (2, 64), (1, 0)] := by
          have h : shC[0]? = some (.inr (11, [(2, 1), (2, 31), (2, 36), (2, 38), (2, 55), (2, 56), (2, 59), (2, 62), (2, 64), (1, 0)])) := rfl
          rw [h0] at h
          injection h with h
          injection h with h
          injection h
        subst this
        rfl
      refine hP 0 _ ?_
      rw [List.getElem?_set_ne (by decide), List.getElem?_set_self (by rw [hlen]; decide), e]
      rfl
    · by_cases hk1 : k = 1
      · subst hk1
        rw [h1] at hs
        cases hs
        have e : ent (swW w) (swS σ) 1 (.inr (6, fl1)) = .inr (6, (fvals w σ 1 0 fl1).set 6 (.ref (w.2.2.1 64))) := by
          show Sum.inr (6, fvals (swW w) (swS σ) 1 0 fl1) = _
          rw [fvals_sw]
          have : fl1 = [(2, 2), (2, 8), (0, 0), (0, 0), (0, 0), (2, 9), (2, 14), (0, 0)] := by
            have h : shC[1]? = some (.inr (6, [(2, 2), (2, 8), (0, 0), (0, 0), (0, 0), (2, 9), (2, 14), (0, 0)])) := rfl
            rw [h1] at h
            injection h with h
            injection h with h
            injection h
          subst this
          rfl
        refine hP 1 _ ?_
        rw [List.getElem?_set_self (by rw [List.length_set, hlen]; decide), e]
        rfl
      · have hp0 : piS k ≠ 0 := fun z => hk0 (by rw [← piS_piS k, z]; rfl)
        have hp1 : piS k ≠ 1 := fun z => hk1 (by rw [← piS_piS k, z]; rfl)
        have hsh := shC_sw k hk81 hk0 hk1
        rw [hs] at hsh
        have hat := hP (piS k) (w.2.2.1 (piS k), ent w σ (piS k) (ren sh)) (by
          rw [List.getElem?_set_ne (Ne.symm hp1), List.getElem?_set_ne (Ne.symm hp0)]
          exact wsF_at hsh)
        match sh, hs, hat with
        | .inr o, hs, hat =>
          have e : ent (swW w) (swS σ) k (.inr o) = ent w σ (piS k) (ren (.inr o)) := by
            show Sum.inr (o.1, fvals (swW w) (swS σ) k 0 o.2) = Sum.inr (o.1, fvals w σ (piS k) 0 (o.2.map renf))
            rw [fvals_sw]
          rw [e]
          exact hat
        | .inl (t, n), hs, hat =>
          by_cases h38 : k = 38
          · subst h38
            have hs2 : shC[38]? = some (.inl (39, 4)) := rfl
            rw [hs2] at hs
            cases hs
            have hat' : H[w.2.2.1 38]? = some (arrV (w.2.1 4) 4 (fun j => va_rf (some (w.2.2.1 (39 + 4 * j))))) := hat
            show H[w.2.2.1 38]? = some (arrV (w.2.1 4) 4 (fun j => va_rf (some (w.2.2.1 (piS (39 + 4 * j))))))
            refine hat'.trans (congrArg some (arrV_congr ?_))
            intro j hj
            have : piS (39 + 4 * j) = 39 + 4 * j := by
              unfold piS
              rw [if_neg (by omega), if_neg (by omega)]
            rw [this]
          · have h4 := shC_arr k hk81 h38 t n hs
            have e : ent (swW w) (swS σ) k (.inl (t, n)) = ent w σ (piS k) (ren (.inl (t, n))) := by
              match t, h4 with
              | 0, _ => rfl
              | 1, _ => rfl
              | 2, _ => rfl
              | 3, _ => rfl
            rw [e]
            exact hat
theorem sw_D {w : Wo} {σ : St} (hD : va_D (AW w shC) (wsF w σ 0 shC)) : va_D (AW (swW w) shC) (wsF (swW w) (swS σ) 0 shC) := by
  have key : ∀ (i : Nat) (q : Nat × va_E), (wsF (swW w) (swS σ) 0 shC)[i]? = some q → ∃ q0, (wsF w σ 0 shC)[piS i]? = some q0 ∧ q0.1 = q.1 := by
    intro i q h
    rw [wsF_get] at h
    cases hs : shC[i]? with
    | none => rw [hs] at h; cases h
    | some sh =>
      have hi : i < 81 := by
        have := (List.getElem?_eq_some_iff.mp hs).1
        rwa [shC_len] at this
      rw [hs] at h
      simp only [Option.map_some, Nat.zero_add, Option.some.injEq] at h
      obtain ⟨sh', hsh'⟩ : ∃ sh', shC[piS i]? = some sh' := ⟨_, List.getElem?_eq_getElem (by rw [shC_len]; exact piS_lt hi)⟩
      refine ⟨_, wsF_at hsh', ?_⟩
      rw [← h]
      rfl
  rw [AW_sw]
  refine ⟨fun i j x y hi hj hxy => ?_, fun k q hk => ?_⟩
  · obtain ⟨x0, h1, h2⟩ := key i x hi
    obtain ⟨y0, h3, h4⟩ := key j y hj
    have := hD.1 _ _ x0 y0 h1 h3 (h2.trans (hxy.trans h4.symm))
    rw [← piS_piS i, this, piS_piS]
  · obtain ⟨q0, h1, h2⟩ := key k q hk
    rw [← h2]
    exact hD.2 _ q0 h1
theorem Zs_sw {w : Wo} {s : State} (h : Zs w shC s) : Zs (swW w) shC s := by
  intro hf
  obtain ⟨k1, k2, k3⟩ := h hf
  have e1 : (swW w).2.2.1 9999 = w.2.2.1 9999 := rfl
  have e2 : (swW w).2.2.1 9998 = w.2.2.1 9998 := rfl
  rw [AW_sw, e1, e2]
  exact ⟨k1, k2, k3⟩
set_option maxRecDepth 20000 in
theorem pw_swap {l : Launch} {w : Wo} {σ : St} {Post : Array Value → State → Outcome → State → Prop} (h : PW l (swW w) shC m_X11_read 89 Post 41 [some (.ref 0), none, none] [] (swS σ)) : PW l w shC m_X11_read 89 Post 17 [some (.ref 0), none, none] [] σ := by
  refine go_aload_n 0 d_X11_read_17 rfl rfl rfl Post ?_
  refine go_getR (j := 8) cf11 sC_0 rfl (by decide) fl_X11_61 d_X11_read_18 rfl Post ?_
  refine go_astore_n 2 d_X11_read_21 rfl (by decide) (L' := [some (.ref 0), none, some (.ref 64)]) rfl rfl Post ?_
  refine go_aload_n 0 d_X11_read_22 rfl rfl rfl Post ?_
  refine go_aload_n 0 d_X11_read_23 rfl rfl rfl Post ?_
  refine go_getR (j := 0) cf11 sC_0 rfl (by decide) fl_X11_12 d_X11_read_24 rfl Post ?_
  refine go_getR (j := 6) cf6 sC_1 rfl (by decide) fl_X11_91 d_X11_read_27 rfl Post ?_
  intro p e s m args below meth c H locs ls X hl hP hD hS
  obtain ⟨hx, hb, hml, hrt, hown, hts, hlk, hK, hN, hZ⟩ := id X
  have hlen : ∀ (T : List Shp) (k : Nat), (wsF w σ k T).length = T.length := by
    intro T
    induction T with
    | nil => intro k; rfl
    | cons a r ih => intro k; simp [wsF, ih]
  refine va_put hx hb hts cf11.2.1 tyc11 cf11.2.2.1 cf11.2.2.2 hown hK hP hD hS 0 (wsF_at sC_0) cf11.1 8 (by decide) (hts _ fl_X11_61) (fun _ h => h) rfl (ty := .object "HeadNets$Book") (v := .ref (w.2.2.1 14)) (by rw [cf11.2.2.1 8 (by decide)]; rfl) rfl rfl (by rw [fvals_len]; decide) d_X11_read_30 ?_
  intro H1 locs1 hP1 hD1 hS1
  refine lv_aload_n hx hb d_X11_read_33 rfl (hl.2.2 0 (.ref 0) rfl) ?_
  refine va_get hx hb hts cf11.2.1 hown hK hP1 0 (List.getElem?_set_self (by rw [hlen, shC_len]; decide)) cf11.1 0 (by decide) (hts _ fl_X11_12) (fun _ h => h) (v := .ref (w.2.2.1 1)) (by rw [List.getElem?_set_ne (by decide)]; rfl) d_X11_read_34 ?_
  refine lv_aload_n hx hb d_X11_read_37 rfl (hl.2.2 2 (.ref 64) rfl) ?_
  refine va_put hx hb hts cf6.2.1 tyc6 cf6.2.2.1 cf6.2.2.2 hown hK hP1 hD1 hS1 1 (by rw [List.getElem?_set_ne (by decide)]; exact wsF_at sC_1) cf6.1 6 (by decide) (hts _ fl_X11_91) (fun _ h => h) rfl (ty := .object "HeadNets$Book") (v := .ref (w.2.2.1 64)) (by rw [cf6.2.2.1 6 (by decide)]; rfl) rfl rfl (by rw [fvals_len]; decide) d_X11_read_38 ?_
  intro H2 locs2 hP2 hD2 hS2
  have hPw := sw_world sC_0 sC_1 hP2
  have key := h p e s m args below meth c H2 locs2 ls ⟨hx, hb, hml, hrt, hown, hts, hlk, hK, hN, Zs_sw hZ⟩ ⟨hl.1, hl.2.1, fun i v hi => ?_⟩ hPw (sw_D hD) (by rw [AW_sw]; exact hS2)
  · rw [AW_sw] at key
    exact key
  · match i, hi with
    | 0, hi =>
      cases hi
      exact hl.2.2 0 (.ref 0) rfl
    | 1, hi => simp at hi
    | 2, hi => simp at hi
    | i + 3, hi => simp at hi
def f_X11_read (F : Nat) (σ : St) : Option (Int32 × St) :=
  Option.bind (f_X11_read0 F σ) fun t => match t with
  | .inl q => some q
  | .inr s => f_X11_read1 F (swS s)
/-- read()'s contract: the cells keep their numbers, or the two Books have changed theirs -/
def QcR (w : Wo) (q : Int32 × St) : Array Value → State → Outcome → State → Prop := fun a st oc t =>
  QcP w shC (fun r τ => r = some (.int q.1) ∧ τ = q.2) a st oc t ∨ QcP (swW w) shC (fun r τ => r = some (.int q.1) ∧ τ = q.2) a st oc t
theorem met_of {l : Launch} {w : Wo} {S : List Shp} {Y : Mt} {d : Nat} {As : List Value} {σ : St} {Qc : Array Value → State → Outcome → State → Prop} {L : Lo} (hn : plainFor Y.1 = true) (n : Nat) (hL : aL As ++ List.replicate n none = L) (hlen : (lg_sl (As.map (tv w))).length ≤ Y.2.2.1) (h : PW l w S Y d Qc 0 L [] σ) : Met l Y.1 (.code Y.1 Y.2.1 Y.2.2.1 Y.2.2.2 :: tb) (rmD d) (fun av U => av = (As.map (tv w)).toArray ∧ WoAt w S σ U) Qc 0 0 (AW w S) := by
  refine met_ofW (cc := Y.2.1) (maxL := Y.2.2.1) (ret := Y.2.2.2) hn rfl ?_
  intro p e s m args below meth c s₁ B hml hv
  obtain ⟨rfl, hP, hD, hK, hN, hZ⟩ := hv
  have hts0 := atoms_spec (ws := .code Y.1 Y.2.1 Y.2.2.1 Y.2.2.2 :: tb) B.pre
  have hcx : Cx w S Y p s m ((As.map (tv w)).toArray) meth c := ⟨B.exec, B.bytes, hml, B.returns, findClass_of_methodNamed B.named, fun q hq => hts0 q (List.mem_cons_of_mem _ hq), B.notSynchronized, hK, hN, hZ⟩
  have hl := lv_entry (As.map (tv w)) (n := Y.2.2.1) hlen
  rw [lg_entry_eq]
  refine h p e s m _ below meth c s.heap [] _ hcx ⟨hl.1, hl.2.1, fun i v hi => ?_⟩ hP hD va_S.rf
  rw [← hL] at hi
  have hi' : (aL As)[i]? = some (some v) := by
    by_cases hlt : i < (aL As).length
    · rw [List.getElem?_append_left hlt] at hi
      exact hi
    · rw [List.getElem?_append_right (by omega)] at hi
      have := List.eq_of_mem_replicate (List.mem_of_getElem? hi)
      cases this
  have := aL_args (w := w) As 0 i v hi'
  rw [Nat.zero_add] at this
  exact hl.2.2 _ this
theorem k_X11_read (l : Launch) (w : Wo) (hw : w.2.2.2 = true) (F : Nat) (σ : St) (q : Int32 × St) (hq : f_X11_read F σ = some q) : Met l m_X11_read.1 (.code m_X11_read.1 m_X11_read.2.1 m_X11_read.2.2.1 m_X11_read.2.2.2 :: tb) (rmD 89) (fun av U => av = (([.ref 0] : List Value).map (tv w)).toArray ∧ WoAt w shC σ U) (QcR w q) 0 0 (AW w shC) := by
  refine met_of (L := [some (.ref 0), none, none]) (plainFor_of_name (by decide +kernel)) 2 rfl (Nat.le_of_ble_eq_true rfl) ?_
  unfold f_X11_read at hq
  cases h0 : f_X11_read0 F σ with
  | none => rw [h0] at hq; cases hq
  | some t =>
    rw [h0, Option.bind_some] at hq
    refine g_X11_read0 l w hw F σ (QcR w q) t h0 ?_
    cases t with
    | inl q' =>
      have e : q' = q := by simpa using hq
      subst e
      exact fun _ _ _ hP hF => Or.inl ⟨⟨_, _, rfl, ⟨rfl, rfl⟩, hP⟩, hF⟩
    | inr s =>
      have e : f_X11_read1 F (swS s) = some q := by simpa using hq
      refine pw_swap (g_X11_read1 l (swW w) F (swS s) (QcR w q) q e ?_)
      intro a st t hP hF
      refine Or.inr ⟨⟨_, _, rfl, ⟨rfl, rfl⟩, hP⟩, hF⟩
