/-! what holds at the law's entry (by program) -/
set_option maxRecDepth 20000 in
theorem en_str : Cond.stringRef "HeadNets$Tape" 70 "(),=;+-:" ∈ tables_1 := tn2 215 rfl
set_option maxRecDepth 20000 in
theorem en_lay : Cond.laysStatic "java/lang/String" "COMPACT_STRINGS" "Z" ∈ tables_1 := tn2 229 rfl
set_option maxRecDepth 20000 in
theorem en_ini : Cond.initialized "java/lang/String" ∈ tables_1 := tn1 15 rfl
set_option maxRecDepth 20000 in
theorem en_ovr : Cond.arrayOver (.object "HeadNets$Net") ∈ tables_1 := tn2 73 rfl
set_option maxRecDepth 20000 in
theorem en_clh : Cond.classLink R_law 7 "HeadNets" ∈ tb := tb1 22 rfl rfl
set_option maxRecDepth 20000 in
theorem en_clm : Cond.classLink R_law 10 "HeadNetsModel" ∈ tb := tb5 208 rfl rfl
set_option maxRecDepth 20000 in
theorem ml_X11_init : Cond.methodLink R_law 9 m_X11_init.1 ∈ tb := tb1 24 rfl rfl
theorem yn_X11_init : m_X11_init.1.cls ≠ "java/lang/invoke/MethodHandle" ∧ m_X11_init.1.cls ≠ "java/lang/invoke/VarHandle" ∧ (parseMethodDescriptor m_X11_init.1.desc).map (fun d => d.parameters.length) = some 0 := ⟨by decide +kernel, by decide +kernel, by decide +kernel⟩
set_option maxRecDepth 20000 in
theorem ml_X12_init : Cond.methodLink R_law 12 m_X12_init.1 ∈ tb := tb5 210 rfl rfl
theorem yn_X12_init : m_X12_init.1.cls ≠ "java/lang/invoke/MethodHandle" ∧ m_X12_init.1.cls ≠ "java/lang/invoke/VarHandle" ∧ (parseMethodDescriptor m_X12_init.1.desc).map (fun d => d.parameters.length) = some 0 := ⟨by decide +kernel, by decide +kernel, by decide +kernel⟩
theorem ent_w {p : Program} {s : State} {m : MethodId} {meth : Method} {c : Code} {b L : Nat} {xs : Nat → Int32} (C0 : lw_At p s m meth c b L xs) : ∃ (D : va_G) (ty : Nat → ClassId) (aS aV : Nat), (∀ ad f, va_K D vwCl (tysW (D, ty, ad, f)) s) ∧ Nb s ∧ va_AO "HeadNets$Net" s ∧ ∀ ad : Nat → Nat, ad 9999 = aS → ad 9998 = aV → (∀ q, AW (D, ty, ad, true) shC q → s.heap.size ≤ q) → Zs (D, ty, ad, true) shC s := by
  obtain ⟨hx, hb, hr, hml, hown, hts, hX, hbl, hlocks, hgv⟩ := C0
  have hts' : ∀ q ∈ tb, q.before #[Value.ref b] s = true := fun q hq => hts q (tb_lw q hq)
  have hT : ∀ q ∈ tables_1, q.before #[Value.ref b] s = true := fun q hq => hts q (List.mem_append_right _ hq)
  have hfl := flat_of_before _ hgv
  obtain ⟨c0, i0, k0⟩ := u_known (C := Rc0) (T := Tc0) (N := 3) (n := 3) hts' cf0.2.1 (hts' _ xn_0)
  obtain ⟨c1, i1, k1⟩ := u_known (C := Rc1) (T := Tc1) (N := 8) (n := 8) hts' cf1.2.1 (hts' _ xn_1)
  obtain ⟨c2, i2, k2⟩ := u_known (C := Rc2) (T := Tc2) (N := 5) (n := 5) hts' cf2.2.1 (hts' _ xn_2)
  obtain ⟨c3, i3, k3⟩ := u_known (C := Rc3) (T := Tc3) (N := 4) (n := 4) hts' cf3.2.1 (hts' _ xn_3)
  obtain ⟨c4, i4, k4⟩ := u_known (C := Rc4) (T := Tc4) (N := 8) (n := 8) hts' cf4.2.1 (hts' _ xn_4)
  obtain ⟨c5, i5, k5⟩ := u_known (C := Rc5) (T := Tc5) (N := 2) (n := 2) hts' cf5.2.1 (hts' _ xn_5)
  obtain ⟨c6, i6, k6⟩ := u_known (C := Rc6) (T := Tc6) (N := 8) (n := 8) hts' cf6.2.1 (hts' _ xn_6)
  obtain ⟨c7, i7, k7⟩ := u_known (C := Rc7) (T := Tc7) (N := 4) (n := 4) hts' cf7.2.1 (hts' _ xn_7)
  obtain ⟨c8, i8, k8⟩ := u_known (C := Rc8) (T := Tc8) (N := 8) (n := 8) hts' cf8.2.1 (hts' _ xn_8)
  obtain ⟨c9, i9, k9⟩ := u_known (C := Rc9) (T := Tc9) (N := 10) (n := 10) hts' cf9.2.1 (hts' _ xn_9)
  obtain ⟨c10, i10, k10⟩ := u_known (C := Rc10) (T := Tc10) (N := 3) (n := 3) hts' cf10.2.1 (hts' _ xn_10)
  obtain ⟨c11, i11, k11⟩ := u_known (C := Rc11) (T := Tc11) (N := 10) (n := 10) hts' cf11.2.1 (hts' _ xn_11)
  obtain ⟨c12, i12, k12⟩ := u_known (C := Rc12) (T := Tc12) (N := 83) (n := 83) hts' cf12.2.1 (hts' _ xn_12)
  obtain ⟨cI, kI, pI, fI, gI, hI⟩ := Cond.arrayClass_spec (hts' _ wac_I)
  obtain ⟨cJ, kJ, pJ, fJ, gJ, hJ⟩ := Cond.arrayClass_spec (hts' _ wac_J)
  obtain ⟨cB, kB, pB, fB, gB, hB⟩ := Cond.arrayClass_spec (hts' _ wac_B)
  obtain ⟨cZ, kZ, pZ, fZ, gZ, hZ⟩ := Cond.arrayClass_spec (hts' _ wac_Z)
  have hov := hT _ en_ovr
  obtain ⟨pN, cN, kN, q1, q2, q3, q4, q5⟩ := Cond.arrayOver_spec hov
  have hA : ∀ a : Nat, a < s.heap.size → ¬ (fun q : Nat => s.heap.size ≤ q) a := fun a h => Nat.not_le.mpr h
  obtain ⟨adK, adV, hSt, hEv⟩ := vk_Sof (args := #[Value.ref b]) (s := s) (N := 1) (tm := fun _ => .string "HeadNets$Tape" 70) (len := [8]) (byt := [[40, 41, 44, 61, 59, 43, 45, 58]]) (A := fun q : Nat => s.heap.size ≤ q)
    (fun i hi => by rw [show i = 0 by omega]; decide) (fun i hi => hfl _ (by decide +kernel)) (fun i hi => hfl _ (by decide +kernel)) (fun i hi => hfl _ (by decide +kernel)) (fun i hi => by rw [show i = 0 by omega]; exact hfl _ (by decide +kernel))
    (fun i hi j hj => by
      rw [show i = 0 by omega] at hj ⊢
      have hj8 : j < 8 := hj
      rcases (show j = 0 ∨ j = 1 ∨ j = 2 ∨ j = 3 ∨ j = 4 ∨ j = 5 ∨ j = 6 ∨ j = 7 by omega) with rfl | rfl | rfl | rfl | rfl | rfl | rfl | rfl <;> exact hfl _ (by decide +kernel))
    (fun i j hi hj hne => absurd (show i = j by omega) hne) hA
  have hZ0 : va_Z "java/lang/String" "COMPACT_STRINGS" "Z" (.int 1) (fun q : Nat => s.heap.size ≤ q) s s.heap := va_Zof (args := #[Value.ref b]) (hT _ en_lay) (hT _ en_ini) (va_eqi (hfl _ (by decide +kernel))) hA
  refine ⟨(fun k => if k = 0 then c0 else if k = 1 then c1 else if k = 2 then c2 else if k = 3 then c3 else if k = 4 then c4 else if k = 5 then c5 else if k = 6 then c6 else if k = 7 then c7 else if k = 8 then c8 else if k = 9 then c9 else if k = 10 then c10 else if k = 11 then c11 else c12, fun k => if k = 0 then i0 else if k = 1 then i1 else if k = 2 then i2 else if k = 3 then i3 else if k = 4 then i4 else if k = 5 then i5 else if k = 6 then i6 else if k = 7 then i7 else if k = 8 then i8 else if k = 9 then i9 else if k = 10 then i10 else if k = 11 then i11 else i12), fun k => if k = 0 then cI else if k = 1 then cJ else if k = 2 then cB else if k = 3 then cZ else cN, adK 0, adV 0, fun ad f => ⟨fun k q hq => ?_, fun k q hq => ?_⟩, fun own idx y host h => va_Nw.of rfl (hT _ h), va_AO.of hov, fun ad e1 e2 hge _ => ⟨?_, ?_, ?_⟩⟩
  · match k, hq with
    | 0, hq => cases hq; exact k0
    | 1, hq => cases hq; exact k1
    | 2, hq => cases hq; exact k2
    | 3, hq => cases hq; exact k3
    | 4, hq => cases hq; exact k4
    | 5, hq => cases hq; exact k5
    | 6, hq => cases hq; exact k6
    | 7, hq => cases hq; exact k7
    | 8, hq => cases hq; exact k8
    | 9, hq => cases hq; exact k9
    | 10, hq => cases hq; exact k10
    | 11, hq => cases hq; exact k11
    | 12, hq => cases hq; exact k12
    | k + 13, hq => simp [vwCl] at hq
  · match k, hq with
    | 0, hq => cases hq; exact ⟨fun n z => ⟨(fun k h => by cases h), kI, gI, pI, hI⟩, fI⟩
    | 1, hq => cases hq; exact ⟨fun n z => ⟨(fun k h => by cases h), kJ, gJ, pJ, hJ⟩, fJ⟩
    | 2, hq => cases hq; exact ⟨fun n z => ⟨(fun k h => by cases h), kB, gB, pB, hB⟩, fB⟩
    | 3, hq => cases hq; exact ⟨fun n z => ⟨(fun k h => by cases h), kZ, gZ, pZ, hZ⟩, fZ⟩
    | 4, hq => cases hq; exact ⟨fun n z => ⟨(fun k h => by cases h), kN, q3, pN, q4⟩, kN, pN, q3, q4, q1, q5⟩
    | k + 5, hq => simp [tysW] at hq
  · show vk_R "HeadNets$Tape" 70 "(),=;+-:" (ad 9999) s
    rw [e1]
    exact vk_R.of (A := #[Value.ref b]) (hT _ en_str) (hEv 0 (by omega))
  · have hn := hSt.narrow hge
    refine ⟨fun i hi => ?_, fun i j hi hj e => by omega⟩
    have := hn.1 i hi
    rw [show i = 0 by omega] at this ⊢
    rw [← e1, ← e2] at this
    exact this
  · exact hZ0.narrow hge
