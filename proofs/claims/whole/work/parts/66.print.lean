/-! print -/
theorem put255 : ∀ c : Fin 256, ((((I ((c.val : Nat) : Int)).toInt8.toInt32).toInt8.toInt32) &&& (255 : Int32)) = I ((c.val : Nat) : Int) := by decide +kernel
theorem put255' {c : Int} (h0 : 0 ≤ c) (h1 : c < 256) : ((((I c).toInt8.toInt32).toInt8.toInt32) &&& (255 : Int32)) = I c := by
  have := put255 ⟨c.toNat, by omega⟩
  rw [show (((⟨c.toNat, by omega⟩ : Fin 256).val : Nat) : Int) = c from by show ((c.toNat : Nat) : Int) = c; omega] at this
  exact this
def nmc (c : Int64) (v : Int) : Int32 := (((c.toUInt64 >>> ((I v).toInt64.toUInt64 &&& Int64.toUInt64 63)).toInt64).toInt32) &&& (255 : Int32)
def nmm (c : Int64) (v : Int) : Int32 := ((c >>> ((I v).toInt64 &&& 63)) &&& (255 : Int64)).toInt32
theorem e255L : ∀ k : Nat, k < 64 → (255 : Int64).toBitVec.getLsbD k = decide (k < 8) := by decide
theorem nm_eq (c : Int64) (j : Nat) (hj : j < 8) : nmc c (56 - 8 * (j : Int)) = nmm c (56 - 8 * (j : Int)) := by
  have h : j = 0 ∨ j = 1 ∨ j = 2 ∨ j = 3 ∨ j = 4 ∨ j = 5 ∨ j = 6 ∨ j = 7 := by omega
  unfold nmc nmm
  apply Int32.toBitVec.inj
  apply BitVec.eq_of_getLsbD_eq
  intro i hi
  simp only [Int32.toBitVec_and, BitVec.getLsbD_and, e255 i hi]
  have f255 : ∀ (k : Nat) (h : k < 32), (255#32)[k] = decide (k < 8) := by decide
  have key : ∀ s : Nat, s ≤ 56 → ∀ (u : UInt64) (v : Int64), u.toNat % 64 = s → (v.toBitVec.smod 64#64).toNat = s → ((c.toUInt64 >>> u).toInt64.toInt32.toBitVec.getLsbD i && decide (i < 8)) = ((c >>> v) &&& (255 : Int64)).toInt32.toBitVec.getLsbD i := by
    intro s hs u v hu hv
    have f := f255 i hi
    by_cases hi8 : i < 8
    · rw [decide_eq_true hi8] at f
      have e1 : s + i < 64 := by omega
      simp [Int64.toBitVec_toInt32, BitVec.getLsbD_signExtend, e255L i (by omega), hi8, hi, Int64.toBitVec_shiftRight, BitVec.getLsbD_sshiftRight, show ¬ 64 ≤ i from by omega, BitVec.signExtend_eq_setWidth_of_le]
      simp only [BitVec.getElem_and, BitVec.getElem_sshiftRight, hv, hu, e1, f, if_true, Bool.and_true]
    · rw [decide_eq_false hi8] at f
      simp [Int64.toBitVec_toInt32, BitVec.getLsbD_signExtend, e255L i (by omega), hi8, hi, BitVec.signExtend_eq_setWidth_of_le]
      intro _
      exact f
  rcases h with h | h | h | h | h | h | h | h <;> subst h
  · exact key 56 (by omega) _ _ (by decide) (by decide)
  · exact key 48 (by omega) _ _ (by decide) (by decide)
  · exact key 40 (by omega) _ _ (by decide) (by decide)
  · exact key 32 (by omega) _ _ (by decide) (by decide)
  · exact key 24 (by omega) _ _ (by decide) (by decide)
  · exact key 16 (by omega) _ _ (by decide) (by decide)
  · exact key 8 (by omega) _ _ (by decide) (by decide)
  · exact key 0 (by omega) _ _ (by decide) (by decide)
