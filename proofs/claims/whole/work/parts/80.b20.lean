theorem rd_add {p : Int32} {q t : Nat} (hq : q < 100) (ht : t < 100) : p + nI q = nI t ↔ p.toInt + q = t := by
  have hp := z_rng p
  rw [z_eq, Int32.toInt_add, z_tI (by omega), z_tI (by omega), Int.bmod_def]
  have e : ((2 ^ 32 : Nat) : Int) = 4294967296 := by decide
  rw [e]
  constructor
  · intro h
    split at h <;> omega
  · intro h
    split <;> omega
theorem rd_64 {p : Int32} {i c : Nat} (hi : i < 100) (hc : c < 100) : (p.toInt64 + (2 * nI i).toInt64 + (nI c).toInt64).toInt = p.toInt + 2 * i + c := by
  have hp := z_rng p
  rw [show (2 : Int32) * nI i = nI (2 * i) by rw [show (2 : Int32) = nI 2 from rfl, z_mul]]
  rw [Int64.toInt_add, Int64.toInt_add, Int32.toInt_toInt64, Int32.toInt_toInt64, Int32.toInt_toInt64, z_tI (by omega), z_tI (by omega)]
  have e : ((2 ^ 64 : Nat) : Int) = 18446744073709551616 := by decide
  rw [Int.bmod_def (p.toInt + _), e]
  rw [Int.bmod_def, e]
  split <;> split <;> omega
/-- what the class finds with a pair of cells -/
noncomputable def fpS (a b p x : Int32) : Int32 := if a = -1 then 1 else if a = p then (if 0 ≤ x ∧ x ≤ b - 1 then (if 0 ≤ x + 1 ∧ x + 1 ≤ b - 1 then 0 else 2) else 2) else 3
theorem b_faultOfPair {p x : Int32} {s : S2} {K : Int32 → S2 → Prop} (k : K (fpS (s 0 0) (s 0 1) p x) s) : w_X0_faultOfPair p x s K := by
  unfold w_X0_faultOfPair
  unfold fpS at k
  refine jn_in (fun J => (s 0 0 = -1 ∨ s 0 0 = p) → J ()) (fun hh => ?_) (fun J hJ => ?_)
  · refine b_faultAt (fun q => ?_) (fun q y => ?_) (fun q y => ?_)
    · rw [if_pos q] at k; exact br_neg n10 k
    · rw [if_neg q, if_pos (hh.resolve_left q), if_neg y] at k; exact br_neg (by decide) k
    · rw [if_neg q, if_pos (hh.resolve_left q), if_pos y] at k
      refine br_pos rfl (b_faultAt (fun q2 => absurd q2 q) (fun _ y2 => ?_) (fun _ y2 => ?_))
      · rw [if_neg y2] at k; exact k
      · rw [if_pos y2] at k; exact k
  · refine br_in (fun q => hJ (Or.inl q)) (fun q => br_in (fun q2 => hJ (Or.inr q2)) (fun q2 => ?_))
    rw [if_neg q, if_neg q2] at k; exact k
theorem fp_ok {b p x a : Int32} (h : fpS a b p x = 0) : 0 ≤ x ∧ x ≤ b - 1 ∧ 0 ≤ x + 1 ∧ x + 1 ≤ b - 1 := by
  unfold fpS at h
  split at h
  · exact absurd h (by decide)
  · split at h
    · split at h
      · rename_i h1
        split at h
        · rename_i h2; exact ⟨h1.1, h1.2, h2.1, h2.2⟩
        · exact absurd h (by decide)
      · exact absurd h (by decide)
    · exact absurd h (by decide)
theorem sz_to {z i : Nat} (hz : z ≤ 40) (h : i < z) : 0 ≤ nI i ∧ nI i ≤ nI z - 1 := by
  cases z with
  | zero => omega
  | succ q => rw [nI_pred]; exact ⟨nI_pos' (by omega), nI_le (by omega) (by omega)⟩
/-- where both cells are there -/
theorem fp_at {z i : Nat} {p3 a p : Int32} (hz : z ≤ 40) (hi : i < 30) (h : fpS a (nI z) p (p3 + 2 * nI i) = 0) : ∃ t, t + 1 < z ∧ p3 + 2 * nI i = nI t := by
  obtain ⟨h1, h2, h3, h4⟩ := fp_ok h
  obtain ⟨t, ht, et⟩ := sz_of hz ⟨h1, h2⟩
  rw [et] at h3 h4
  rw [show nI t + 1 = nI (t + 1) from nI_1 t] at h3 h4
  obtain ⟨u, hu, eu⟩ := sz_of hz ⟨h3, h4⟩
  have : t + 1 = u := by
    have := congrArg Int32.toInt eu
    rw [z_tI (by omega), z_tI (by omega)] at this
    omega
  exact ⟨t, by omega, et⟩
theorem fp_in {z i : Nat} {p3 p : Int32} (hz : z ≤ 40) (hi : i < 30) (hp : ¬ p = -1) : fpS p (nI z) p (p3 + 2 * nI i) = if 0 ≤ p3.toInt + 2 * i ∧ p3.toInt + 2 * i + 1 < z then 0 else 2 := by
  have e2 : (2 : Int32) * nI i = nI (2 * i) := by rw [show (2 : Int32) = nI 2 from rfl, z_mul]
  by_cases q : 0 ≤ p3.toInt + 2 * i ∧ p3.toInt + 2 * i + 1 < z
  · rw [if_pos q]
    obtain ⟨t, et⟩ : ∃ t : Nat, p3.toInt + 2 * i = t := ⟨(p3.toInt + 2 * i).toNat, by omega⟩
    have e : p3 + 2 * nI i = nI t := by rw [e2]; exact (rd_add (by omega) (by omega)).mpr (by omega)
    rw [e, fpS, if_neg hp, if_pos rfl, if_pos (sz_to hz (by omega)), show nI t + 1 = nI (t + 1) from nI_1 t, if_pos (sz_to hz (by omega))]
  · rw [if_neg q]
    by_cases y : fpS p (nI z) p (p3 + 2 * nI i) = 0
    · exfalso
      obtain ⟨t, ht, et⟩ := fp_at hz hi y
      rw [e2] at et
      have := (rd_add (by omega) (by omega)).mp et
      exact q (by omega)
    · revert y
      unfold fpS
      rw [if_neg hp, if_pos rfl]
      split
      · split
        · intro y; exact absurd rfl y
        · intro _; rfl
      · intro _; rfl
theorem md_reason {k i : Nat} {p2 p3 : Int32} {s mo : S2} {BIG : Int32 → Prop} (hk : k < 4) (hi : i < 30) (IS : IS1 s mo k) (h : BIG (fpS (s 0 0) (s 0 1) p2 (p3 + 2 * nI i))) : lfp2 (fun G77 (i19 : Int32) (i20 : Int32) => jn (fun (_ : Unit) => BIG i19) (fun J164 => br (2 ≤ i20) (J164 ()) (br (i19 = 0) (nm ((((p3.toInt64) + ((2 * nI i).toInt64)) + (i20.toInt64)) : Int64) (fun x50 => vp_in (nI k) 4 ∧ (jn (fun (k52 : Int32) => nm (i20 + 1 : Int32) (fun x53 => G77 k52 x53)) (fun J156 => br ((mo 9 (nI k).toNatClampNeg) = (-4)) (J156 1) (vp_in (nI k) 4 ∧ (br ((mo 9 (nI k).toNatClampNeg) = p2) (jn (fun (_ : Unit) => J156 2) (fun J151 => br ((lg_cmp x50 0) < 0) (J151 ()) (vp_in (nI k) 4 ∧ (br ((lg_cmp x50 ((mo 10 (nI k).toNatClampNeg).toInt64)) < 0) (J156 0) (J151 ()))))) (J156 3))))))) (J164 ())))) 0 0 := by
  intro G hG
  -- at the end
  have fin : ∀ r : Int32, ¬ r = 0 → BIG r → G r 1 := fun r hr hB => hG _ _ (jn_in (fun J => J ()) hB (fun J hJ => br_neg (by decide) (br_neg hr hJ)))
  have fin2 : ∀ r : Int32, BIG r → G r 2 := fun r hB => hG _ _ (jn_in (fun J => J ()) hB (fun J hJ => br_pos (by decide) hJ))
  have vk : vp_in (nI k) 4 := z_in hk (by omega)
  rw [z_cl (by omega)] at hG
  rcases IS.1 with ⟨e0, e9⟩ | ⟨a, z, ha, hz, ea, e9, ez, e10⟩
  · rw [e0, fpS, if_pos rfl] at h
    refine hG _ _ (jn_in (fun _ => True) trivial (fun J _ => br_neg (by decide) (br_pos rfl (nm_in ⟨vk, jn_in (fun J => J 1) (nm_in (fin 1 n10 h)) (fun J hJ => br_pos e9 hJ)⟩))))
  · have na := (m_ne (a := a) (by omega))
    rw [ea, ez] at h
    by_cases q : nI a = p2
    · subst q
      rw [fp_in hz hi na.1] at h
      -- a cell
      have cell : ∀ (c : Nat), c < 2 → (p3.toInt + 2 * i + c < 0 ∨ (z : Int) ≤ p3.toInt + 2 * i + c → G 2 (nI (c + 1))) → (0 ≤ p3.toInt + 2 * i + c ∧ p3.toInt + 2 * i + c < z → G 0 (nI (c + 1))) → G 0 (nI c) := by
        intro c hc g2 g0
        have x64 := rd_64 (p := p3) (i := i) (c := c) (by omega) (by omega)
        refine hG _ _ (jn_in (fun _ => True) trivial (fun J _ => br_neg (nI_ge (b := 2) (by omega) (by omega)) (br_pos rfl (nm_in ⟨vk, jn_in (fun J => (p3.toInt + 2 * i + c < 0 ∨ (z : Int) ≤ p3.toInt + 2 * i + c → J 2) ∧ (0 ≤ p3.toInt + 2 * i + c ∧ p3.toInt + 2 * i + c < z → J 0)) ?_ (fun J hJ => ?_)⟩))))
        · refine ⟨fun q => nm_in ?_, fun q => nm_in ?_⟩
          · rw [nI_1]; exact g2 q
          · rw [nI_1]; exact g0 q
        · rw [e9, e10]
          refine br_neg na.2 ⟨vk, br_pos rfl ?_⟩
          refine jn_in (fun J2 => (p3.toInt + 2 * i + c < 0 ∨ (z : Int) ≤ p3.toInt + 2 * i + c → J2 ())) (fun q => hJ.1 q) (fun J2 hJ2 => ?_)
          refine br_in (fun q => hJ2 (Or.inl ?_)) (fun q => ⟨vk, br_in (fun q2 => hJ.2 ⟨?_, ?_⟩) (fun q2 => hJ2 (Or.inr ?_))⟩)
          · rw [lg_cmp_lt, Int64.lt_iff_toInt_lt, x64] at q
            exact q
          · rw [lg_cmp_lt, Int64.lt_iff_toInt_lt, x64] at q
            have : (0 : Int64).toInt = 0 := by decide
            omega
          · rw [lg_cmp_lt, Int64.lt_iff_toInt_lt, x64, Int32.toInt_toInt64, z_tI (by omega)] at q2
            exact q2
          · rw [lg_cmp_lt, Int64.lt_iff_toInt_lt, x64, Int32.toInt_toInt64, z_tI (by omega)] at q2
            omega
      refine cell 0 (by omega) (fun q => ?_) (fun q => ?_)
      · rw [if_neg (by omega)] at h
        exact fin 2 (by decide) h
      · refine cell 1 (by omega) (fun q2 => ?_) (fun q2 => ?_)
        · rw [if_neg (by omega)] at h
          exact fin2 2 h
        · rw [if_pos (by omega)] at h
          exact fin2 0 h
    · rw [fpS, if_neg na.1, if_neg q] at h
      refine hG _ _ (jn_in (fun _ => True) trivial (fun J _ => br_neg (by decide) (br_pos rfl (nm_in ⟨vk, jn_in (fun J => J 3) (nm_in (fin 3 (by decide) h)) (fun J hJ => br_neg (by rw [e9]; exact na.2) ⟨vk, br_neg (by rw [e9]; exact q) hJ⟩)⟩))))
