theorem b_within {a b c : Int32} {K : Int32 → Prop} (h : K (zb (b ≤ a ∧ a ≤ c))) : w_X3_within a b c K := by
  unfold w_X3_within
  refine br_in (fun h1 => ?_) (fun h1 => br_in (fun h2 => ?_) (fun h2 => ?_))
  · have e : zb (b ≤ a ∧ a ≤ c) = 0 := zb_0.mpr (fun q => (z_nle.mpr h1) q.1)
    rw [e] at h; exact h
  · have e : zb (b ≤ a ∧ a ≤ c) = 0 := zb_0.mpr (fun q => (z_nle.mpr h2) q.2)
    rw [e] at h; exact h
  · have e : zb (b ≤ a ∧ a ≤ c) = 1 := by unfold zb; rw [if_pos ⟨z_nlt.mp h1, z_nlt.mp h2⟩]
    rw [e] at h; exact h
theorem b_in {a b c : Int32} {K : Int32 → Prop} (h : K (zb (b ≤ a ∧ a ≤ c))) : w_X4_in a.toInt64 b.toInt64 c.toInt64 K := by
  unfold w_X4_in
  rw [lg_cmp_lt, lg_cmp_gt, z_64lt, z_64lt]
  exact b_within h
def bnd (x : Int32) : Int32 := if x < 0 then 0 else if 999 < x then 999 else x
theorem b_bounded {x : Int32} {K : Int32 → Prop} (h : K (bnd x)) : w_X3_bounded x K := by
  unfold w_X3_bounded
  refine br_in (fun h1 => br_in (fun h2 => ?_) (fun h2 => ?_)) (fun h1 => ?_)
  · have e : bnd x = x := by unfold bnd; rw [if_neg (z_nlt.mpr h1), if_neg (z_nlt.mpr h2)]
    rw [e] at h; exact h
  · have e : bnd x = 999 := by unfold bnd; rw [if_neg (z_nlt.mpr h1), if_pos (z_nle.mp h2)]
    rw [e] at h; exact h
  · have e : bnd x = 0 := by unfold bnd; rw [if_pos (z_nle.mp h1)]
    rw [e] at h; exact h
theorem b_mwithin {x : Int32} {K : Int32 → Prop} (h : K (bnd x)) : w_X4_within x K := b_bounded h
theorem b_flag {x : Int32} {K : Int32 → Prop} (h0 : x = 0 → K 0) (h1 : ¬ x = 0 → K 1) : w_X4_flag x K := br_in h0 h1
theorem b_flagZ {c : Prop} [Decidable c] {K : Int32 → Prop} (h : K (zb c)) : w_X4_flag (zb c) K := by
  refine br_in (fun q => ?_) (fun q => ?_)
  · rw [q] at h; exact h
  · have e : zb c = 1 := by rcases zb_01 c with z | z
                            · exact absurd z q
                            · exact z
    rw [e] at h; exact h
theorem b_isPart {a : Int32} {K : Int32 → Prop} (h : K (zb (0 ≤ a ∧ a ≤ 1))) : w_X4_isPart a K := b_in (b := 0) (c := 1) ⟨zb_01 _, h⟩
theorem b_isFar {a : Int32} {K : Int32 → Prop} (h : K (zb (0 ≤ a ∧ a ≤ 60))) : w_X4_isFar a K := b_in (b := 0) (c := 60) ⟨zb_01 _, h⟩
theorem b_isOne {a : Int32} {mo : S2} {lo : SL} {K : Int32 → S2 → SL → Prop} (h : K (zb (0 ≤ a ∧ a ≤ mo 0 3 - 1)) mo lo) : w_X4_isOne a mo lo K := b_in (b := 0) ⟨zb_01 _, h⟩
theorem b_has {a : Int32} {w : S2} {K : Int32 → S2 → Prop} (h : K (zb (0 ≤ a ∧ a ≤ w 0 0 - 1)) w) : w_X2_has a w K := b_within ⟨zb_01 _, h⟩
theorem b_of {j x : Nat} {mo : S2} {lo : SL} {K : Int32 → S2 → SL → Prop} (hj : 4 * j + x < 57) (h : K (mo 2 (4 * j + x)) mo lo) : w_X4_of (nI j) (nI x) mo lo K := by
  have e : (4 : Int32) * nI j + nI x = nI (4 * j + x) := by rw [show (4 : Int32) = nI 4 from rfl, z_mul, z_add]
  unfold w_X4_of
  rw [e, z_cl (by omega)]
  exact ⟨z_in hj (by omega), h⟩
theorem b_becomesOf {j x : Nat} {v : Int32} {mo : S2} {lo : SL} {K : S2 → SL → Prop} (hj : 4 * j + x < 57) (h : K (va_up mo 2 (upd (mo 2) (4 * j + x) v)) lo) : w_X4_becomesOf (nI j) (nI x) v mo lo K := by
  have e : (4 : Int32) * nI j + nI x = nI (4 * j + x) := by rw [show (4 : Int32) = nI 4 from rfl, z_mul, z_add]
  unfold w_X4_becomesOf
  rw [e, z_cl (by omega)]
  exact ⟨z_in hj (by omega), h⟩
theorem b_becomes {j : Nat} {v : Int32} {mo : S2} {lo : SL} {K : Int32 → S2 → SL → Prop} (hj : j < 171) (h : K (mo 1 j) (va_up mo 1 (upd (mo 1) j v)) lo) : w_X4_becomes (nI j) v mo lo K := by
  unfold w_X4_becomes
  simp only [nm]
  rw [z_cl (by omega)]
  exact ⟨z_in hj (by omega), z_in hj (by omega), h⟩
theorem b_starts {mo : S2} {lo : SL} {K : S2 → SL → Prop} (h : K (va_up mo 2 (fil (mo 1) (mo 2) 57)) lo) : w_X4_starts mo lo K := by
  unfold w_X4_starts
  refine lfp3_inv 57 (fun k a b c => a = nI k ∧ b = va_up mo 2 (fil (mo 1) (mo 2) k) ∧ c = lo) ?_ ?_ (k := 0) (by omega) ⟨rfl, ?_, rfl⟩
  · rintro a b c ⟨rfl, rfl, rfl⟩ G
    exact br_pos (nI_le (Nat.le_refl 57) (by omega)) h
  · rintro k a b c hk ⟨rfl, rfl, rfl⟩ G hG
    refine br_neg (nI_ge (b := 57) hk (by omega)) ⟨z_in (by omega) (by omega), z_in hk (by omega), hG _ _ _ ⟨nI_1 k, ?_, rfl⟩⟩
    rw [z_cl (by omega), z_upS, z_upN _ _ (by decide), z_upU, fil_succ]
  · rw [fil_0]; funext k; by_cases hk : k = 2
    · subst hk; rw [z_upS]
    · rw [z_upN _ _ hk]
theorem b_settles {mo : S2} {lo : SL} {K : S2 → SL → Prop} (h : K (va_up mo 1 (fil (mo 2) (mo 1) 57)) lo) : w_X4_settles mo lo K := by
  unfold w_X4_settles
  refine lfp3_inv 57 (fun k a b c => a = nI k ∧ b = va_up mo 1 (fil (mo 2) (mo 1) k) ∧ c = lo) ?_ ?_ (k := 0) (by omega) ⟨rfl, ?_, rfl⟩
  · rintro a b c ⟨rfl, rfl, rfl⟩ G
    exact br_pos (nI_le (Nat.le_refl 57) (by omega)) h
  · rintro k a b c hk ⟨rfl, rfl, rfl⟩ G hG
    refine br_neg (nI_ge (b := 57) hk (by omega)) ⟨z_in hk (by omega), z_in (by omega) (by omega), hG _ _ _ ⟨nI_1 k, ?_, rfl⟩⟩
    rw [z_cl (by omega), z_upS, z_upN _ _ (by decide), z_upU, fil_succ]
  · rw [fil_0]; funext k; by_cases hk : k = 1
    · subst hk; rw [z_upS]
    · rw [z_upN _ _ hk]
