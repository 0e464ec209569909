/-! behind the two constructors -/
theorem sim_start {σ τ : St} (hc : InitC σ) (hm : InitM τ) : Sim σ τ 0 := by
  obtain ⟨c20, c28, c40, c44, c48, c52, c70, c78, co, cl⟩ := hc
  obtain ⟨m12, m47, mo, ml⟩ := hm
  have e1 : Bkn B00 = 0 := rfl
  have e2 : Brn B00 = 0 := rfl
  have z : ∀ k j, k ≠ 20 → k ≠ 28 → k ≠ 40 → k ≠ 44 → k ≠ 48 → k ≠ 52 → k ≠ 70 → k ≠ 78 → k ≠ 1 → σ.1 k j = I 0 := fun k j a1 a2 a3 a4 a5 a6 a7 a8 a9 => by
    rw [co k j a1 a2 a3 a4 a5 a6 a7 a8, if_neg (fun q => a9 q.1)]; rfl
  have mz : ∀ k j, k ≠ 12 → k ≠ 47 → ¬ (k = 0 ∧ j = 2) → τ.1 k j = I 0 := fun k j a1 a2 a3 => by
    rw [mo k j a1 a2, if_neg a3]; rfl
  refine ⟨B00, N00, ⟨?_, ?_, n00_v B00 (Int.le_refl _), ⟨?_, ?_⟩, ⟨?_, ?_⟩, ?_, ?_⟩, ?_, ?_, ?_, ?_, ?_, ?_, ?_⟩
  · exact ⟨by rw [e1]; omega, by rw [e1]; omega, fun k a b => by rw [e1] at b; omega, fun k p a b => by rw [e1] at b; omega⟩
  · exact ⟨by rw [e2]; omega, by rw [e2]; omega, fun a b x y => by rw [e1] at y; omega, fun r a b => by rw [e2] at b; omega, fun r i a b => by rw [e2] at b; omega, fun r t a b => by rw [e2] at b; omega⟩
  · exact ⟨z 65 3 (by omega) (by omega) (by omega) (by omega) (by omega) (by omega) (by omega) (by omega) (by omega), fun k a b => by rw [e1] at b; omega, fun k a b => by rw [e1] at b; omega, fun k p a b => by rw [e1] at b; omega⟩
  · exact ⟨z 69 7 (by omega) (by omega) (by omega) (by omega) (by omega) (by omega) (by omega) (by omega) (by omega), fun a b x y => by rw [e1] at y; omega, fun r a b => by rw [e2] at b; omega, fun r i a b => by rw [e2] at b; omega, fun r t a b => by rw [e2] at b; omega, fun r t a b => by rw [e2] at b; omega⟩
  · exact ⟨mz 0 3 (by omega) (by omega) (by omega), fun k a b => by rw [e1] at b; omega, fun k a b => by rw [e1] at b; omega, fun k p a b => by rw [e1] at b; omega⟩
  · exact ⟨mz 0 8 (by omega) (by omega) (by omega), fun a b x y => by rw [e1] at y; omega, fun r a b => by rw [e2] at b; omega, fun r i a b => by rw [e2] at b; omega, fun r t a b => by rw [e2] at b; omega⟩
  · have zz : ∀ j, σ.1 77 j = I 0 := fun j => z 77 j (by omega) (by omega) (by omega) (by omega) (by omega) (by omega) (by omega) (by omega) (by omega)
    exact ⟨fun n a b => c78 _ (by omega), fun x hx => absurd hx (n00_l _ x), fun x hx => absurd hx (n00_l _ x), by rw [n00_c]; exact zz 3, zz 4, zz 5, 0, by omega, by omega, zz 6, fun _ _ _ => rfl⟩
  · exact ⟨fun n a b => m12 _ (by omega), fun x hx => absurd hx (n00_l _ x), fun x hx => absurd hx (n00_l _ x), mz 0 18 (by omega) (by omega) (by omega), mz 0 19 (by omega) (by omega) (by omega)⟩
  · exact ⟨0, by omega, by omega, z 9 6 (by omega) (by omega) (by omega) (by omega) (by omega) (by omega) (by omega) (by omega) (by omega), mz 0 1 (by omega) (by omega) (by omega), fun i a b => by omega⟩
  · exact ⟨0, by omega, by omega, z 62 1 (by omega) (by omega) (by omega) (by omega) (by omega) (by omega) (by omega) (by omega) (by omega), mz 0 28 (by omega) (by omega) (by omega), fun i a b => by omega⟩
  · have zz : ∀ j, σ.1 36 j = I 0 := fun j => z 36 j (by omega) (by omega) (by omega) (by omega) (by omega) (by omega) (by omega) (by omega) (by omega)
    exact ⟨0, 0, by rw [n00_c]; omega, by omega, by omega, zz 1, mz 0 20 (by omega) (by omega) (by omega), mz 0 26 (by omega) (by omega) (by omega), by omega, by omega, zz 2, mz 0 21 (by omega) (by omega) (by omega), by rw [zz 3, mz 0 22 (by omega) (by omega) (by omega)], by rw [zz 4, mz 0 23 (by omega) (by omega) (by omega)], Or.inl (mz 0 23 (by omega) (by omega) (by omega)), fun j a b c => by omega⟩
  · intro s a b
    refine Or.inl ⟨z (39 + 4 * s.toNat) 7 (by omega) (by omega) (by omega) (by omega) (by omega) (by omega) (by omega) (by omega) (by omega), m47 _ (by omega)⟩
  · rw [co 1 7 (by omega) (by omega) (by omega) (by omega) (by omega) (by omega) (by omega) (by omega), if_pos ⟨rfl, rfl⟩, mo 0 2 (by omega) (by omega), if_pos ⟨rfl, rfl⟩]
  · rw [cl, if_pos ⟨rfl, rfl⟩, ml, if_pos ⟨rfl, rfl⟩]
  · exact fun j _ => Or.inl (mz 20 j (by omega) (by omega) (by omega))
