/-! the class's and the reference's first states are alike -/
theorem IV_0 {u mo : S2} (d4 : u 4 = fil (fun _ => 0) (m00 4) 57) (d5 : u 0 5 = 0) (dc : ∀ c, c ≠ 0 → c ≠ 4 → u c = m00 c) (dk : ∀ k, k < 5 ∨ 8 < k → u 0 k = m00 0 k) (e1 : mo 1 = upd (fil (u 4) (u 1) 57) 22 (if u 0 5 = 0 then -4 else u 4 22)) (e3 : mo 0 3 = u 0 5) (e30 : mo 3 0 = 0) (e31 : mo 3 1 = 0) (ec : ∀ c, c ≠ 0 → c ≠ 1 → c ≠ 3 → mo c = u c) (ek : ∀ k, k ≠ 3 → mo 0 k = u 0 k) : IV o00 mo := by
  have z : ∀ j, j < 57 → j ≠ 22 → mo 1 j = 0 := fun j hj h22 => by
    rw [e1, z_upd_ne _ _ h22, fil_lo _ _ hj, d4, fil_lo _ _ hj]
  have z22 : mo 1 22 = -4 := by rw [e1, z_upd_same, if_pos d5]
  have zk : ∀ k, 8 < k → mo 0 k = 0 := fun k hk => by rw [ek k (by omega), dk k (Or.inr hk)]; rfl
  refine ⟨0, by rw [e3, d5]; exact nI_0.symm, ⟨⟨by omega, fun _ => z22, fun h => absurd h (by omega), ⟨0, by omega, by rw [z 23 (by omega) (by omega)]; exact nI_0.symm, fun i hi => absurd hi (by omega)⟩, ⟨0, by omega, by rw [z 44 (by omega) (by omega)]; exact nI_0.symm, fun i hi => absurd hi (by omega)⟩, fun p hp => absurd hp (by omega)⟩, ?_, ?_, ?_⟩, fun k hk => ?_, ⟨0, by omega, nI_0.symm, by rw [zk 10 (by omega)]; exact nI_0.symm, fun j hj => absurd hj (by omega)⟩, ?_, ?_, fun k hk => ⟨Or.inl ⟨?_, ?_⟩, fun i hi => ?_⟩⟩
  · refine ⟨nI_0.symm, (z 20 (by omega) (by omega)).symm, (z 21 (by omega) (by omega)).symm, fun h => absurd h (by omega), fun _ => rfl, (z 23 (by omega) (by omega)).symm, (z 44 (by omega) (by omega)).symm, fun p hp => absurd hp (by omega), fun j hj => ?_, fun i hi => ?_⟩
    · rw [z 23 (by omega) (by omega)] at hj
      exact absurd hj (Nat.not_lt_zero _)
    · rw [z 44 (by omega) (by omega)] at hi
      exact absurd hi (Nat.not_lt_zero _)
  · rw [z 20 (by omega) (by omega)]; decide
  · rw [z 20 (by omega) (by omega)]; decide
  · rcases (show k = 0 ∨ k = 1 by omega) with rfl | rfl
    · exact ⟨e30.symm, Or.inl e30⟩
    · exact ⟨e31.symm, Or.inl e31⟩
  · rw [zk 15 (by omega)]; rfl
  · rw [zk 27 (by omega)]; rfl
  · rcases (show k = 0 ∨ k = 1 ∨ k = 2 ∨ k = 3 by omega) with rfl | rfl | rfl | rfl <;> rfl
  · rw [ec 9 (by omega) (by omega) (by omega), dc 9 (by omega) (by omega)]
    exact ml4_at k hk
  · rw [ec 11 (by omega) (by omega) (by omega), dc 11 (by omega) (by omega)]
    rcases (show k = 0 ∨ k = 1 ∨ k = 2 ∨ k = 3 by omega) with rfl | rfl | rfl | rfl <;> rfl
